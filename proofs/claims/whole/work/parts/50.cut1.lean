set_option maxHeartbeats 4000000 in
set_option maxRecDepth 100000 in
theorem c_PC_cutBySide (l : Launch) (dC : Nat → ClassId) (dI : Nat → Nat → Nat) (cJ cI : ClassId) (sz : Nat) (ob : Nat) (wi : Int32) (hi : Int32) (fo : Int32) (gi : Nat) (gia : Nat) (gin : Int32) (gif : Nat → Int64) (ke : Nat) (kea : Nat) (kn : Nat) (kef : Nat → Int64) (sp : Nat) (spa : Nat) (spn : Int32) (spf : Nat → Int64) (pi : Nat) (pia : Nat) (pin : Int32) (pif : Nat → Int64) (fa : Nat) (fas : Nat) (fat : Nat) (faa : Nat) (fan : Int32) (faS : Nat → Int32) (faT : Nat → Int32) (faA : Nat → Int32) (sd : Nat) (hkn : kn ≤ 13) (hsd : sd < 5) (hfit : pu_fit fo wi hi) (hc3 : ∀ c, c < kn → pu_c3 (kef (6 * c)) (kef (6 * c + 1)) (kef (6 * c + 2))) : Met l y_PC_cutBySide w_PC_cutBySide ({ frames := 4, cells := 0, slots := 0, locals := 104 } : Room) (rq_rw (dC, dI) cJ cI sz [.ref ob, .int (nI sd)] [(ob, .inr (0, [.int wi, .int hi, .int fo, .ref gi, .ref ke, .ref sp, .ref pi, .ref fa])), (gi, .inr (1, [.ref gia, .int gin])), (gia, .inl (cJ, 114, .inr (.inl gif))), (ke, .inr (1, [.ref kea, .int (nI kn)])), (kea, .inl (cJ, 114, .inr (.inl kef))), (sp, .inr (1, [.ref spa, .int spn])), (spa, .inl (cJ, 114, .inr (.inl spf))), (pi, .inr (1, [.ref pia, .int pin])), (pia, .inl (cJ, 114, .inr (.inl pif))), (fa, .inr (2, [.ref fas, .ref fat, .ref faa, .int fan])), (fas, .inl (cI, 17, .inl faS)), (fat, .inl (cI, 17, .inl faT)), (faa, .inl (cI, 17, .inl faA))]) (va_Qv (fun _ : Unit => True) (rz (dC, dI) (va_A [(ob, .inr (0, [.int wi, .int hi, .int fo, .ref gi, .ref ke, .ref sp, .ref pi, .ref fa])), (gi, .inr (1, [.ref gia, .int gin])), (gia, .inl (cJ, 114, .inr (.inl gif))), (ke, .inr (1, [.ref kea, .int (nI kn)])), (kea, .inl (cJ, 114, .inr (.inl kef))), (sp, .inr (1, [.ref spa, .int spn])), (spa, .inl (cJ, 114, .inr (.inl spf))), (pi, .inr (1, [.ref pia, .int pin])), (pia, .inl (cJ, 114, .inr (.inl pif))), (fa, .inr (2, [.ref fas, .ref fat, .ref faa, .int fan])), (fas, .inl (cI, 17, .inl faS)), (fat, .inl (cI, 17, .inl faT)), (faa, .inl (cI, 17, .inl faA))] sz) [(ob, .inr (0, [.int wi, .int hi, .int fo, .ref gi, .ref sp, .ref ke, .ref pi, .ref fa])), (gi, .inr (1, [.ref gia, .int gin])), (gia, .inl (cJ, 114, .inr (.inl gif))), (ke, .inr (1, [.ref kea, .int (nI kn)])), (kea, .inl (cJ, 114, .inr (.inl kef))), (sp, .inr (1, [.ref spa, .int (nI (pu_cs fo wi hi sd kn kef spf kn).1)])), (spa, .inl (cJ, 114, .inr (.inl ((pu_cs fo wi hi sd kn kef spf kn).2)))), (pi, .inr (1, [.ref pia, .int pin])), (pia, .inl (cJ, 114, .inr (.inl pif))), (fa, .inr (2, [.ref fas, .ref fat, .ref faa, .int fan])), (fas, .inl (cI, 17, .inl faS)), (fat, .inl (cI, 17, .inl faT)), (faa, .inl (cI, 17, .inl faA))]) (va_A [(ob, .inr (0, [.int wi, .int hi, .int fo, .ref gi, .ref ke, .ref sp, .ref pi, .ref fa])), (gi, .inr (1, [.ref gia, .int gin])), (gia, .inl (cJ, 114, .inr (.inl gif))), (ke, .inr (1, [.ref kea, .int (nI kn)])), (kea, .inl (cJ, 114, .inr (.inl kef))), (sp, .inr (1, [.ref spa, .int spn])), (spa, .inl (cJ, 114, .inr (.inl spf))), (pi, .inr (1, [.ref pia, .int pin])), (pia, .inl (cJ, 114, .inr (.inl pif))), (fa, .inr (2, [.ref fas, .ref fat, .ref faa, .int fan])), (fas, .inl (cI, 17, .inl faS)), (fat, .inl (cI, 17, .inl faT)), (faa, .inl (cI, 17, .inl faA))] sz)) 0 0 (va_A [(ob, .inr (0, [.int wi, .int hi, .int fo, .ref gi, .ref ke, .ref sp, .ref pi, .ref fa])), (gi, .inr (1, [.ref gia, .int gin])), (gia, .inl (cJ, 114, .inr (.inl gif))), (ke, .inr (1, [.ref kea, .int (nI kn)])), (kea, .inl (cJ, 114, .inr (.inl kef))), (sp, .inr (1, [.ref spa, .int spn])), (spa, .inl (cJ, 114, .inr (.inl spf))), (pi, .inr (1, [.ref pia, .int pin])), (pia, .inl (cJ, 114, .inr (.inl pif))), (fa, .inr (2, [.ref fas, .ref fat, .ref faa, .int fan])), (fas, .inl (cI, 17, .inl faS)), (fat, .inl (cI, 17, .inl faT)), (faa, .inl (cI, 17, .inl faA))] sz) := by
  refine Met.ofW (cc := b_PC_cutBySide) (maxL := 6) (ret := none) (by decide) rfl ?_
  intro p e s m args below meth c s₁ B hml hv
  obtain ⟨rfl, hsz, hP, hK, hN, hD0⟩ := hv
  have hx := B.exec
  have hb := B.bytes
  have hr := B.returns
  have hts := atoms_spec (ws := w_PC_cutBySide) B.pre
  have hown : s.vm.findClass R_PC = some m.cls := findClass_of_methodNamed B.named
  have hlocks := B.notSynchronized
  subst hsz
  have hD := hD0.self (sz := s.heap.size)
  generalize hAe : va_A [(ob, .inr (0, [.int wi, .int hi, .int fo, .ref gi, .ref ke, .ref sp, .ref pi, .ref fa])), (gi, .inr (1, [.ref gia, .int gin])), (gia, .inl (cJ, 114, .inr (.inl gif))), (ke, .inr (1, [.ref kea, .int (nI kn)])), (kea, .inl (cJ, 114, .inr (.inl kef))), (sp, .inr (1, [.ref spa, .int spn])), (spa, .inl (cJ, 114, .inr (.inl spf))), (pi, .inr (1, [.ref pia, .int pin])), (pia, .inl (cJ, 114, .inr (.inl pif))), (fa, .inr (2, [.ref fas, .ref fat, .ref faa, .int fan])), (fas, .inl (cI, 17, .inl faS)), (fat, .inl (cI, 17, .inl faT)), (faa, .inl (cI, 17, .inl faA))] s.heap.size = A at hD ⊢
  have hA : ∀ q : Nat, s.heap.size ≤ q → A q := fun q h => by rw [← hAe]; exact Or.inr h
  have hS : va_S A s.heap s.heap [] := va_S.rf
  have hl := lv_entry ([.ref ob, .int (nI sd)]) (n := 6) (Nat.le_of_ble_eq_true rfl)
  rw [lg_entry_eq]
  generalize (lg_sl ([.ref ob, .int (nI sd)]) ++ List.replicate (6 - (lg_sl ([.ref ob, .int (nI sd)])).length) Slot.unset).toArray = ls at hl ⊢
  have hl : lv_has ls 6 [(0, .ref ob), (1, .int (nI sd))] := hl
  have hP : va_P (dC, dI) cls4 [(ob, .inr (0, [.int wi, .int hi, .int fo, .ref gi, .ref ke, .ref sp, .ref pi, .ref fa])), (gi, .inr (1, [.ref gia, .int gin])), (gia, .inl (cJ, 114, .inr (.inl gif))), (ke, .inr (1, [.ref kea, .int (nI kn)])), (kea, .inl (cJ, 114, .inr (.inl kef))), (sp, .inr (1, [.ref spa, .int spn])), (spa, .inl (cJ, 114, .inr (.inl spf))), (pi, .inr (1, [.ref pia, .int pin])), (pia, .inl (cJ, 114, .inr (.inl pif))), (fa, .inr (2, [.ref fas, .ref fat, .ref faa, .int fan])), (fas, .inl (cI, 17, .inl faS)), (fat, .inl (cI, 17, .inl faT)), (faa, .inl (cI, 17, .inl faA))] s.heap := hP
  have LOOP : ∀ (n : Nat) (k : Nat), (k ≤ kn) → (kn + 1 ≤ k + n) → ∀ (H : Heap) (locs : List Loc), va_P (dC, dI) cls4 [(ob, .inr (0, [.int wi, .int hi, .int fo, .ref gi, .ref ke, .ref sp, .ref pi, .ref fa])), (gi, .inr (1, [.ref gia, .int gin])), (gia, .inl (cJ, 114, .inr (.inl gif))), (ke, .inr (1, [.ref kea, .int (nI kn)])), (kea, .inl (cJ, 114, .inr (.inl kef))), (sp, .inr (1, [.ref spa, .int (nI (pu_cs fo wi hi sd kn kef spf k).1)])), (spa, .inl (cJ, 114, .inr (.inl ((pu_cs fo wi hi sd kn kef spf k).2)))), (pi, .inr (1, [.ref pia, .int pin])), (pia, .inl (cJ, 114, .inr (.inl pif))), (fa, .inr (2, [.ref fas, .ref fat, .ref faa, .int fan])), (fas, .inl (cI, 17, .inl faS)), (fat, .inl (cI, 17, .inl faT)), (faa, .inl (cI, 17, .inl faA))] H → va_D A [(ob, .inr (0, [.int wi, .int hi, .int fo, .ref gi, .ref ke, .ref sp, .ref pi, .ref fa])), (gi, .inr (1, [.ref gia, .int gin])), (gia, .inl (cJ, 114, .inr (.inl gif))), (ke, .inr (1, [.ref kea, .int (nI kn)])), (kea, .inl (cJ, 114, .inr (.inl kef))), (sp, .inr (1, [.ref spa, .int (nI (pu_cs fo wi hi sd kn kef spf k).1)])), (spa, .inl (cJ, 114, .inr (.inl ((pu_cs fo wi hi sd kn kef spf k).2)))), (pi, .inr (1, [.ref pia, .int pin])), (pia, .inl (cJ, 114, .inr (.inl pif))), (fa, .inr (2, [.ref fas, .ref fat, .ref faa, .int fan])), (fas, .inl (cI, 17, .inl faS)), (fat, .inl (cI, 17, .inl faT)), (faa, .inl (cI, 17, .inl faA))] → va_S A s.heap H locs → ∀ (ls : Array Slot), lv_has ls 6 [(0, .ref ob), (1, .int (nI sd)), (2, .int (nI k))] → W p l e (headSpec w_PC_cutBySide ({ frames := 4, cells := 0, slots := 0, locals := 104 } : Room)).room s m ([.ref ob, .int (nI sd)] : List Value).toArray below meth c H locs 0 0 (MQ below (va_Qv (fun _ : Unit => True) (rz (dC, dI) A [(ob, .inr (0, [.int wi, .int hi, .int fo, .ref gi, .ref sp, .ref ke, .ref pi, .ref fa])), (gi, .inr (1, [.ref gia, .int gin])), (gia, .inl (cJ, 114, .inr (.inl gif))), (ke, .inr (1, [.ref kea, .int (nI kn)])), (kea, .inl (cJ, 114, .inr (.inl kef))), (sp, .inr (1, [.ref spa, .int (nI (pu_cs fo wi hi sd kn kef spf kn).1)])), (spa, .inl (cJ, 114, .inr (.inl ((pu_cs fo wi hi sd kn kef spf kn).2)))), (pi, .inr (1, [.ref pia, .int pin])), (pia, .inl (cJ, 114, .inr (.inl pif))), (fa, .inr (2, [.ref fas, .ref fat, .ref faa, .int fan])), (fas, .inl (cI, 17, .inl faS)), (fat, .inl (cI, 17, .inl faT)), (faa, .inl (cI, 17, .inl faA))]) A) ([.ref ob, .int (nI sd)] : List Value).toArray s 0 0 A) (F0 m 9 ls []) := by
    intro  n
    induction n with
    | zero =>
      intro k hk hm
      exact absurd hm (by omega)
    | succ n ih =>
      intro k hk hm H locs hP hD hS ls hl
      refine lv_iload_n hx hb d_PC_cutBySide_9 rfl (lv_at hl 2 rfl) ?_
      refine lv_aload_n hx hb d_PC_cutBySide_10 rfl (lv_at hl 0 rfl) ?_
      refine va_get (D := (dC, dI)) (ci := 0) (v := .ref ke) (C := R_PC) (T := F_PC) (N := 8) hx hb hts (fun w h => mw (i_PC w h)) hown hK hP 0 rfl rfl 4 (by decide) (hts _ (mw wd_85)) (fun _ h9 => h9) rfl d_PC_cutBySide_11 ?_
      refine va_getN (D := (dC, dI)) (ci := 1) (v := .int (nI kn)) (C := R_Ri) (T := F_Ri) (N := 2) hx hb hts (fun w h => mw (i_Ri w h)) hown hK hP 3 rfl rfl 1 (by decide) (va_Nw.use rfl (hN _ nw_1)) (fun _ h9 => h9) rfl d_PC_cutBySide_14 ?_
      refine lv_icmp_ge (tgt := 137) hx hb d_PC_cutBySide_17 (by decide) (fun c_1 => ?_) (fun c_1 => ?_)
      · have c_1 : nI kn ≤ nI k := c_1
        rw [nI_leI (by omega) (by omega)] at c_1
        have c_1 : kn ≤ k := c_1
        refine lv_aload_n hx hb d_PC_cutBySide_137 rfl (lv_at hl 0 rfl) ?_
        refine va_get (D := (dC, dI)) (ci := 0) (v := .ref sp) (C := R_PC) (T := F_PC) (N := 8) hx hb hts (fun w h => mw (i_PC w h)) hown hK hP 0 rfl rfl 5 (by decide) (hts _ (mw wd_86)) (fun _ h9 => h9) rfl d_PC_cutBySide_138 ?_
        refine lv_astore_n (lv' := [(2, .ref sp), (0, .ref ob), (1, .int (nI sd))]) hx hb d_PC_cutBySide_141 rfl hl (by decide) rfl (fun ls hl => ?_)
        refine lv_aload_n hx hb d_PC_cutBySide_142 rfl (lv_at hl 1 rfl) ?_
        refine lv_aload_n hx hb d_PC_cutBySide_143 rfl (lv_at hl 1 rfl) ?_
        refine va_get (D := (dC, dI)) (ci := 0) (v := .ref ke) (C := R_PC) (T := F_PC) (N := 8) hx hb hts (fun w h => mw (i_PC w h)) hown hK hP 0 rfl rfl 4 (by decide) (hts _ (mw wd_85)) (fun _ h9 => h9) rfl d_PC_cutBySide_144 ?_
        refine va_put (D := (dC, dI)) (ci := 0) (v := .ref ke) (ty := (.object "PieceCutter$Ring")) (C := R_PC) (T := F_PC) (N := 8) hx hb hts (fun w h => mw (i_PC w h)) t_PC t_PC_ok n_PC hown hK hP hD hS 0 rfl rfl 5 (by decide) (hts _ (mw wd_86)) (fun _ h9 => h9) rfl (by decide +kernel) rfl rfl (Nat.le_of_ble_eq_true rfl) d_PC_cutBySide_147 (fun H locs hP hD hS => ?_)
        have hP : va_P (dC, dI) cls4 [(ob, .inr (0, [.int wi, .int hi, .int fo, .ref gi, .ref ke, .ref ke, .ref pi, .ref fa])), (gi, .inr (1, [.ref gia, .int gin])), (gia, .inl (cJ, 114, .inr (.inl gif))), (ke, .inr (1, [.ref kea, .int (nI kn)])), (kea, .inl (cJ, 114, .inr (.inl kef))), (sp, .inr (1, [.ref spa, .int (nI (pu_cs fo wi hi sd kn kef spf k).1)])), (spa, .inl (cJ, 114, .inr (.inl ((pu_cs fo wi hi sd kn kef spf k).2)))), (pi, .inr (1, [.ref pia, .int pin])), (pia, .inl (cJ, 114, .inr (.inl pif))), (fa, .inr (2, [.ref fas, .ref fat, .ref faa, .int fan])), (fas, .inl (cI, 17, .inl faS)), (fat, .inl (cI, 17, .inl faT)), (faa, .inl (cI, 17, .inl faA))] H := hP
        have hD : va_D A [(ob, .inr (0, [.int wi, .int hi, .int fo, .ref gi, .ref ke, .ref ke, .ref pi, .ref fa])), (gi, .inr (1, [.ref gia, .int gin])), (gia, .inl (cJ, 114, .inr (.inl gif))), (ke, .inr (1, [.ref kea, .int (nI kn)])), (kea, .inl (cJ, 114, .inr (.inl kef))), (sp, .inr (1, [.ref spa, .int (nI (pu_cs fo wi hi sd kn kef spf k).1)])), (spa, .inl (cJ, 114, .inr (.inl ((pu_cs fo wi hi sd kn kef spf k).2)))), (pi, .inr (1, [.ref pia, .int pin])), (pia, .inl (cJ, 114, .inr (.inl pif))), (fa, .inr (2, [.ref fas, .ref fat, .ref faa, .int fan])), (fas, .inl (cI, 17, .inl faS)), (fat, .inl (cI, 17, .inl faT)), (faa, .inl (cI, 17, .inl faA))] := hD
        refine lv_aload_n hx hb d_PC_cutBySide_150 rfl (lv_at hl 1 rfl) ?_
        refine lv_aload_n hx hb d_PC_cutBySide_151 rfl (lv_at hl 0 rfl) ?_
        refine va_put (D := (dC, dI)) (ci := 0) (v := .ref sp) (ty := (.object "PieceCutter$Ring")) (C := R_PC) (T := F_PC) (N := 8) hx hb hts (fun w h => mw (i_PC w h)) t_PC t_PC_ok n_PC hown hK hP hD hS 0 rfl rfl 4 (by decide) (hts _ (mw wd_85)) (fun _ h9 => h9) rfl (by decide +kernel) rfl rfl (Nat.le_of_ble_eq_true rfl) d_PC_cutBySide_152 (fun H locs hP hD hS => ?_)
        have hP : va_P (dC, dI) cls4 [(ob, .inr (0, [.int wi, .int hi, .int fo, .ref gi, .ref sp, .ref ke, .ref pi, .ref fa])), (gi, .inr (1, [.ref gia, .int gin])), (gia, .inl (cJ, 114, .inr (.inl gif))), (ke, .inr (1, [.ref kea, .int (nI kn)])), (kea, .inl (cJ, 114, .inr (.inl kef))), (sp, .inr (1, [.ref spa, .int (nI (pu_cs fo wi hi sd kn kef spf k).1)])), (spa, .inl (cJ, 114, .inr (.inl ((pu_cs fo wi hi sd kn kef spf k).2)))), (pi, .inr (1, [.ref pia, .int pin])), (pia, .inl (cJ, 114, .inr (.inl pif))), (fa, .inr (2, [.ref fas, .ref fat, .ref faa, .int fan])), (fas, .inl (cI, 17, .inl faS)), (fat, .inl (cI, 17, .inl faT)), (faa, .inl (cI, 17, .inl faA))] H := hP
        have hD : va_D A [(ob, .inr (0, [.int wi, .int hi, .int fo, .ref gi, .ref sp, .ref ke, .ref pi, .ref fa])), (gi, .inr (1, [.ref gia, .int gin])), (gia, .inl (cJ, 114, .inr (.inl gif))), (ke, .inr (1, [.ref kea, .int (nI kn)])), (kea, .inl (cJ, 114, .inr (.inl kef))), (sp, .inr (1, [.ref spa, .int (nI (pu_cs fo wi hi sd kn kef spf k).1)])), (spa, .inl (cJ, 114, .inr (.inl ((pu_cs fo wi hi sd kn kef spf k).2)))), (pi, .inr (1, [.ref pia, .int pin])), (pia, .inl (cJ, 114, .inr (.inl pif))), (fa, .inr (2, [.ref fas, .ref fat, .ref faa, .int fan])), (fas, .inl (cI, 17, .inl faS)), (fat, .inl (cI, 17, .inl faT)), (faa, .inl (cI, 17, .inl faA))] := hD
        have hkk : kn = k := by omega
        rw [← hkk] at hP hD
        exact W.vret hx hb hr (fun t ht hW => ⟨⟨(), rfl, trivial, by rw [ht]; exact hP, hD⟩, hS.F ht⟩) hS.2.2 d_PC_cutBySide_155
      · have c_1 : ¬ (nI kn ≤ nI k) := c_1
        rw [nI_leI (by omega) (by omega)] at c_1
        have c_1 : ¬ (kn ≤ k) := c_1
        refine lv_iload_n hx hb d_PC_cutBySide_20 rfl (lv_at hl 2 rfl) ?_
        refine lv_iconst (v := 1) hx hb d_PC_cutBySide_21 (by decide) ?_
        refine lv_iadd hx hb d_PC_cutBySide_22 ?_
        refine lv_topi (fun y_2 ey_2 => ?_)
        have ey_2 : y_2 = nI (k + 1) := by rw [ey_2]; first | rfl | (simp only [nk_set_0, nk_set_1, nk_set_2, nk_set_3, nk_set_4, nk_set_5, nk_set_6, nk_set_7, nk_set_12, nk_set_13, nk_set_18, pk_mul, nI_add]; done) | (simp only [nk_set_0, nk_set_1, nk_set_2, nk_set_3, nk_set_4, nk_set_5, nk_set_6, nk_set_7, nk_set_12, nk_set_13, nk_set_18, pk_mul, nI_add]; exact congrArg nI (by omega))
        subst ey_2
        refine lv_aload_n hx hb d_PC_cutBySide_23 rfl (lv_at hl 0 rfl) ?_
        refine va_get (D := (dC, dI)) (ci := 0) (v := .ref ke) (C := R_PC) (T := F_PC) (N := 8) hx hb hts (fun w h => mw (i_PC w h)) hown hK hP 0 rfl rfl 4 (by decide) (hts _ (mw wd_85)) (fun _ h9 => h9) rfl d_PC_cutBySide_24 ?_
        refine va_getN (D := (dC, dI)) (ci := 1) (v := .int (nI kn)) (C := R_Ri) (T := F_Ri) (N := 2) hx hb hts (fun w h => mw (i_Ri w h)) hown hK hP 3 rfl rfl 1 (by decide) (va_Nw.use rfl (hN _ nw_1)) (fun _ h9 => h9) rfl d_PC_cutBySide_27 ?_
        refine lv_icmp_ge (tgt := 39) hx hb d_PC_cutBySide_30 (by decide) (fun c_3 => ?_) (fun c_3 => ?_)
        · have c_3 : nI kn ≤ nI (k + 1) := c_3
          rw [nI_leI (by omega) (by omega)] at c_3
          have c_3 : kn ≤ (k + 1) := c_3
          refine lv_iconst (v := 0) hx hb d_PC_cutBySide_39 (by decide) ?_
          refine lv_istore_n (lv' := [(3, .int 0), (0, .ref ob), (1, .int (nI sd)), (2, .int (nI k))]) hx hb d_PC_cutBySide_40 rfl hl (by decide) rfl (fun ls hl => ?_)
          refine lv_aload_n hx hb d_PC_cutBySide_41 rfl (lv_at hl 1 rfl) ?_
          refine lv_iload_n hx hb d_PC_cutBySide_42 rfl (lv_at hl 3 rfl) ?_
          refine lv_iload_n hx hb d_PC_cutBySide_43 rfl (lv_at hl 2 rfl) ?_
          have hPc := hP
          refine vp_callSl (va_Run.run (va_runV (As := [.int (nI k), .int (nI sd)]) (rest := []) ⟨hx, hb, hml, hown, hts⟩ (k_PC_sideNumber l dC dI cJ cI ob wi hi fo gi gia gin gif ke kea kn kef sp spa (nI (pu_cs fo wi hi sd kn kef spf k).1) ((pu_cs fo wi hi sd kn kef spf k).2) pi pia pin pif fa fas fat faa fan faS faT faA k sd (by omega) (by omega) (by omega)) (cwV 2 hts (gd_V wd_141 wd_142 wd_7 wd_33 wd_143) rfl rfl rfl (by decide +kernel) ⟨Nat.le_of_ble_eq_true rfl, Nat.le_of_ble_eq_true rfl⟩) ⟨fb_ro, va_recv hK hPc (ci := 0) (q0 := 0) rfl rfl, pre_ro hK hN hPc⟩ rfl rfl hl.1 rfl (lv_room (Nat.le_of_ble_eq_true rfl)) d_PC_cutBySide_44 ⟨Nat.le_of_ble_eq_true rfl, Nat.le_of_ble_eq_true rfl⟩)) (fun r_4 er_4 => ?_)
          have er_4 : r_4 = pu_side fo wi hi sd kef k := er_4
          refine lv_lconst (v := 0) hx hb d_PC_cutBySide_47 (by decide) ?_
          refine W.lcmp hx hb d_PC_cutBySide_48 ?_
          refine lv_if_lt (tgt := 56) hx hb d_PC_cutBySide_49 (by decide) (fun c_5 => ?_) (fun c_5 => ?_)
          · rw [lg_cmp_lt] at c_5
            have c_5 : r_4 < 0 := c_5
            refine lv_iconst (v := 0) hx hb d_PC_cutBySide_56 (by decide) ?_
            refine lv_istore (lv' := [(4, .int 0), (3, .int 0), (0, .ref ob), (1, .int (nI sd)), (2, .int (nI k))]) hx hb d_PC_cutBySide_57 hl (by decide) rfl (fun ls hl => ?_)
            refine lv_aload_n hx hb d_PC_cutBySide_59 rfl (lv_at hl 2 rfl) ?_
            refine lv_iload_n hx hb d_PC_cutBySide_60 rfl (lv_at hl 1 rfl) ?_
            refine lv_iload_n hx hb d_PC_cutBySide_61 rfl (lv_at hl 3 rfl) ?_
            have hPc := hP
            refine vp_callSl (va_Run.run (va_runV (As := [.int (nI 0), .int (nI sd)]) (rest := []) ⟨hx, hb, hml, hown, hts⟩ (k_PC_sideNumber l dC dI cJ cI ob wi hi fo gi gia gin gif ke kea kn kef sp spa (nI (pu_cs fo wi hi sd kn kef spf k).1) ((pu_cs fo wi hi sd kn kef spf k).2) pi pia pin pif fa fas fat faa fan faS faT faA 0 sd (by omega) (by omega) (by omega)) (cwV 2 hts (gd_V wd_141 wd_142 wd_7 wd_33 wd_143) rfl rfl rfl (by decide +kernel) ⟨Nat.le_of_ble_eq_true rfl, Nat.le_of_ble_eq_true rfl⟩) ⟨fb_ro, va_recv hK hPc (ci := 0) (q0 := 0) rfl rfl, pre_ro hK hN hPc⟩ rfl rfl hl.1 rfl (lv_room (Nat.le_of_ble_eq_true rfl)) d_PC_cutBySide_62 ⟨Nat.le_of_ble_eq_true rfl, Nat.le_of_ble_eq_true rfl⟩)) (fun r_6 er_6 => ?_)
            have er_6 : r_6 = pu_side fo wi hi sd kef 0 := er_6
            refine lv_lconst (v := 0) hx hb d_PC_cutBySide_65 (by decide) ?_
            refine W.lcmp hx hb d_PC_cutBySide_66 ?_
            refine lv_if_lt (tgt := 74) hx hb d_PC_cutBySide_67 (by decide) (fun c_7 => ?_) (fun c_7 => ?_)
            · rw [lg_cmp_lt] at c_7
              have c_7 : r_6 < 0 := c_7
              refine lv_iconst (v := 0) hx hb d_PC_cutBySide_74 (by decide) ?_
              refine lv_istore (lv' := [(5, .int 0), (4, .int 0), (3, .int 0), (0, .ref ob), (1, .int (nI sd)), (2, .int (nI k))]) hx hb d_PC_cutBySide_75 hl (by decide) rfl (fun ls hl => ?_)
              have hnx : pu_nx kn k = 0 := if_neg (by omega)
              have h1 : ¬ 0 ≤ pu_side fo wi hi sd kef k := by rw [← er_4]; exact st_lt c_5
              have h2 : ¬ 0 ≤ pu_side fo wi hi sd kef (pu_nx kn k) := by rw [hnx, ← er_6]; exact st_lt c_7
              have hstep := pu_cs_00 (n := kn) (N0 := spf) h1 h2
              have hroom := cb_top (fo := fo) (wi := wi) (hi := hi) (sd := sd) (R := kef) (N0 := spf) (show k < kn by omega) hkn
              rw [hstep] at hroom
              try dsimp only at hroom
              have hnl : 0 < kn := by omega
              rw [hnx] at h2
              refine lv_iload hx hb d_PC_cutBySide_77 (lv_at hl 1 rfl) ?_
              refine lv_if_eq (tgt := 94) hx hb d_PC_cutBySide_79 (by decide) (fun _ => ?_) (fun c_8 => absurd (by decide) c_8)
              refine lv_iload hx hb d_PC_cutBySide_94 (lv_at hl 1 rfl) ?_
              refine lv_if_eq (tgt := 114) hx hb d_PC_cutBySide_96 (by decide) (fun _ => ?_) (fun c_9 => absurd (by decide) c_9)
              refine lv_iload hx hb d_PC_cutBySide_114 (lv_at hl 1 rfl) ?_
              refine lv_if_ne (tgt := 131) hx hb d_PC_cutBySide_116 (by decide) (fun c_10 => absurd (by decide) c_10) (fun _ => ?_)
              refine lv_iload hx hb d_PC_cutBySide_119 (lv_at hl 0 rfl) ?_
              refine lv_if_eq (tgt := 131) hx hb d_PC_cutBySide_121 (by decide) (fun _ => ?_) (fun c_11 => absurd (by decide) c_11)
              refine lv_iinc (v := (nI (k + 1))) (lv' := [(2, .int (nI (k + 1))), (5, .int 0), (4, .int 0), (3, .int 0), (0, .ref ob), (1, .int (nI sd))]) hx hb d_PC_cutBySide_131 hl (k := 5) rfl (nI_1 k) (by decide) rfl (fun ls hl => ?_)
              refine lv_goto (tgt := 9) hx hb d_PC_cutBySide_134 (by decide) ?_
              refine ih (k + 1) (by omega) (by omega) _ _ ?_ ?_ hS ls (lv_sub hl [4, 5, 0] rfl)
              · rw [hstep]; exact hP
              · rw [hstep]; exact hD
            · rw [lg_cmp_lt] at c_7
              have c_7 : ¬ (r_6 < 0) := c_7
              refine lv_iconst (v := 1) hx hb d_PC_cutBySide_70 (by decide) ?_
              refine lv_goto (tgt := 75) hx hb d_PC_cutBySide_71 (by decide) ?_
              refine lv_istore (lv' := [(5, .int 1), (4, .int 0), (3, .int 0), (0, .ref ob), (1, .int (nI sd)), (2, .int (nI k))]) hx hb d_PC_cutBySide_75 hl (by decide) rfl (fun ls hl => ?_)
              have hnx : pu_nx kn k = 0 := if_neg (by omega)
              have h1 : ¬ 0 ≤ pu_side fo wi hi sd kef k := by rw [← er_4]; exact st_lt c_5
              have h2 : 0 ≤ pu_side fo wi hi sd kef (pu_nx kn k) := by rw [hnx, ← er_6]; exact st_ge c_7
              have hstep := pu_cs_01 (n := kn) (N0 := spf) h1 h2
              have hroom := cb_top (fo := fo) (wi := wi) (hi := hi) (sd := sd) (R := kef) (N0 := spf) (show k < kn by omega) hkn
              rw [hstep] at hroom
              try dsimp only at hroom
              have hnl : 0 < kn := by omega
              rw [hnx] at hstep h2
              refine lv_iload hx hb d_PC_cutBySide_77 (lv_at hl 1 rfl) ?_
              refine lv_if_eq (tgt := 94) hx hb d_PC_cutBySide_79 (by decide) (fun _ => ?_) (fun c_12 => absurd (by decide) c_12)
              refine lv_iload hx hb d_PC_cutBySide_94 (lv_at hl 1 rfl) ?_
              refine lv_if_eq (tgt := 114) hx hb d_PC_cutBySide_96 (by decide) (fun _ => ?_) (fun c_13 => absurd (by decide) c_13)
              refine lv_iload hx hb d_PC_cutBySide_114 (lv_at hl 1 rfl) ?_
              refine lv_if_ne (tgt := 131) hx hb d_PC_cutBySide_116 (by decide) (fun c_14 => absurd (by decide) c_14) (fun _ => ?_)
              refine lv_iload hx hb d_PC_cutBySide_119 (lv_at hl 0 rfl) ?_
              refine lv_if_eq (tgt := 131) hx hb d_PC_cutBySide_121 (by decide) (fun c_15 => absurd c_15 (by decide)) (fun _ => ?_)
              refine lv_aload_n hx hb d_PC_cutBySide_124 rfl (lv_at hl 3 rfl) ?_
              refine lv_iload_n hx hb d_PC_cutBySide_125 rfl (lv_at hl 2 rfl) ?_
              refine lv_iload_n hx hb d_PC_cutBySide_126 rfl (lv_at hl 5 rfl) ?_
              refine lv_iload_n hx hb d_PC_cutBySide_127 rfl (lv_at hl 4 rfl) ?_
              have hPc := hP
              have hDc := hD.sub (ws' := [(ob, .inr (0, [.int wi, .int hi, .int fo, .ref gi, .ref ke, .ref sp, .ref pi, .ref fa])), (gi, .inr (1, [.ref gia, .int gin])), (gia, .inl (cJ, 114, .inr (.inl gif))), (ke, .inr (1, [.ref kea, .int (nI kn)])), (kea, .inl (cJ, 114, .inr (.inl kef))), (sp, .inr (1, [.ref spa, .int (nI (pu_cs fo wi hi sd kn kef spf k).1)])), (spa, .inl (cJ, 114, .inr (.inl ((pu_cs fo wi hi sd kn kef spf k).2)))), (pi, .inr (1, [.ref pia, .int pin])), (pia, .inl (cJ, 114, .inr (.inl pif))), (fa, .inr (2, [.ref fas, .ref fat, .ref faa, .int fan])), (fas, .inl (cI, 17, .inl faS)), (fat, .inl (cI, 17, .inl faT)), (faa, .inl (cI, 17, .inl faA))]) [0, 1, 2, 3, 4, 5, 6, 7, 8, 9, 10, 11, 12] (by decide) rfl
              have hFc := va_free (wc := [(ob, .inr (0, [.int wi, .int hi, .int fo, .ref gi, .ref ke, .ref sp, .ref pi, .ref fa])), (gi, .inr (1, [.ref gia, .int gin])), (gia, .inl (cJ, 114, .inr (.inl gif))), (ke, .inr (1, [.ref kea, .int (nI kn)])), (kea, .inl (cJ, 114, .inr (.inl kef))), (sp, .inr (1, [.ref spa, .int (nI (pu_cs fo wi hi sd kn kef spf k).1)])), (spa, .inl (cJ, 114, .inr (.inl ((pu_cs fo wi hi sd kn kef spf k).2)))), (pi, .inr (1, [.ref pia, .int pin])), (pia, .inl (cJ, 114, .inr (.inl pif))), (fa, .inr (2, [.ref fas, .ref fat, .ref faa, .int fan])), (fas, .inl (cI, 17, .inl faS)), (fat, .inl (cI, 17, .inl faT)), (faa, .inl (cI, 17, .inl faA))]) hD hS hA [0, 1, 2, 3, 4, 5, 6, 7, 8, 9, 10, 11, 12] rfl
              refine va_callv (va_runV (As := [.int (nI 0), .int (nI k), .int (nI sd)]) (rest := []) ⟨hx, hb, hml, hown, hts⟩ (k_PC_addBetween l dC dI cJ cI H.size ob wi hi fo gi gia gin gif ke kea kn kef sp spa ((pu_cs fo wi hi sd kn kef spf k).1) ((pu_cs fo wi hi sd kn kef spf k).2) pi pia pin pif fa fas fat faa fan faS faT faA 0 k sd (by omega) (by omega) (by omega) (by omega) (by omega) (cb_pos hfit (hc3 (0) (by omega)) (hc3 (k) (by omega)) h2 h1)) (cwV 3 hts (gd_V wd_145 wd_146 wd_8 wd_33 wd_147) rfl rfl rfl (by decide +kernel) ⟨Nat.le_of_ble_eq_true rfl, Nat.le_of_ble_eq_true rfl⟩) ⟨fb_rw, va_recv hK hPc (ci := 0) (q0 := 0) rfl rfl, pre_rw hK hN hPc hDc⟩ rfl rfl hl.1 rfl (lv_room (Nat.le_of_ble_eq_true rfl)) d_PC_cutBySide_128 ⟨Nat.le_of_ble_eq_true rfl, Nat.le_of_ble_eq_true rfl⟩) hS (fun q _ h => hFc q h) hFc (fun u t H locs ht hvm hw hB hz1 hk1 hS => ?_)
              obtain ⟨hP1, hD1⟩ := hB
              rw [ht] at hP1
              obtain ⟨hP, hD⟩ := va_join (wr := []) (w1 := [(ob, .inr (0, [.int wi, .int hi, .int fo, .ref gi, .ref ke, .ref sp, .ref pi, .ref fa])), (gi, .inr (1, [.ref gia, .int gin])), (gia, .inl (cJ, 114, .inr (.inl gif))), (ke, .inr (1, [.ref kea, .int (nI kn)])), (kea, .inl (cJ, 114, .inr (.inl kef))), (sp, .inr (1, [.ref spa, .int (nI (((pu_cs fo wi hi sd kn kef spf k).1) + 1))])), (spa, .inl (cJ, 114, .inr (.inl (pu_put ((pu_cs fo wi hi sd kn kef spf k).2) ((pu_cs fo wi hi sd kn kef spf k).1) (pu_new fo wi hi sd kef 0 k))))), (pi, .inr (1, [.ref pia, .int pin])), (pia, .inl (cJ, 114, .inr (.inl pif))), (fa, .inr (2, [.ref fas, .ref fat, .ref faa, .int fan])), (fas, .inl (cI, 17, .inl faS)), (fat, .inl (cI, 17, .inl faT)), (faa, .inl (cI, 17, .inl faA))]) hP hD [0, 1, 2, 3, 4, 5, 6, 7, 8, 9, 10, 11, 12] [] rfl rfl (by decide) (by decide) hk1 hFc hP1 hD1
              have hP : va_P (dC, dI) cls4 [(ob, .inr (0, [.int wi, .int hi, .int fo, .ref gi, .ref ke, .ref sp, .ref pi, .ref fa])), (gi, .inr (1, [.ref gia, .int gin])), (gia, .inl (cJ, 114, .inr (.inl gif))), (ke, .inr (1, [.ref kea, .int (nI kn)])), (kea, .inl (cJ, 114, .inr (.inl kef))), (sp, .inr (1, [.ref spa, .int (nI (((pu_cs fo wi hi sd kn kef spf k).1) + 1))])), (spa, .inl (cJ, 114, .inr (.inl (pu_put ((pu_cs fo wi hi sd kn kef spf k).2) ((pu_cs fo wi hi sd kn kef spf k).1) (pu_new fo wi hi sd kef 0 k))))), (pi, .inr (1, [.ref pia, .int pin])), (pia, .inl (cJ, 114, .inr (.inl pif))), (fa, .inr (2, [.ref fas, .ref fat, .ref faa, .int fan])), (fas, .inl (cI, 17, .inl faS)), (fat, .inl (cI, 17, .inl faT)), (faa, .inl (cI, 17, .inl faA))] H := hP
              have hD : va_D A [(ob, .inr (0, [.int wi, .int hi, .int fo, .ref gi, .ref ke, .ref sp, .ref pi, .ref fa])), (gi, .inr (1, [.ref gia, .int gin])), (gia, .inl (cJ, 114, .inr (.inl gif))), (ke, .inr (1, [.ref kea, .int (nI kn)])), (kea, .inl (cJ, 114, .inr (.inl kef))), (sp, .inr (1, [.ref spa, .int (nI (((pu_cs fo wi hi sd kn kef spf k).1) + 1))])), (spa, .inl (cJ, 114, .inr (.inl (pu_put ((pu_cs fo wi hi sd kn kef spf k).2) ((pu_cs fo wi hi sd kn kef spf k).1) (pu_new fo wi hi sd kef 0 k))))), (pi, .inr (1, [.ref pia, .int pin])), (pia, .inl (cJ, 114, .inr (.inl pif))), (fa, .inr (2, [.ref fas, .ref fat, .ref faa, .int fan])), (fas, .inl (cI, 17, .inl faS)), (fat, .inl (cI, 17, .inl faT)), (faa, .inl (cI, 17, .inl faA))] := hD
              refine lv_iinc (v := (nI (k + 1))) (lv' := [(2, .int (nI (k + 1))), (5, .int 1), (4, .int 0), (3, .int 0), (0, .ref ob), (1, .int (nI sd))]) hx hb d_PC_cutBySide_131 hl (k := 5) rfl (nI_1 k) (by decide) rfl (fun ls hl => ?_)
              refine lv_goto (tgt := 9) hx hb d_PC_cutBySide_134 (by decide) ?_
              refine ih (k + 1) (by omega) (by omega) _ _ ?_ ?_ hS ls (lv_sub hl [4, 5, 0] rfl)
              · rw [hstep]; exact hP
              · rw [hstep]; exact hD
          · rw [lg_cmp_lt] at c_5
            have c_5 : ¬ (r_4 < 0) := c_5
            refine lv_iconst (v := 1) hx hb d_PC_cutBySide_52 (by decide) ?_
            refine lv_goto (tgt := 57) hx hb d_PC_cutBySide_53 (by decide) ?_
            refine lv_istore (lv' := [(4, .int 1), (3, .int 0), (0, .ref ob), (1, .int (nI sd)), (2, .int (nI k))]) hx hb d_PC_cutBySide_57 hl (by decide) rfl (fun ls hl => ?_)
            refine lv_aload_n hx hb d_PC_cutBySide_59 rfl (lv_at hl 2 rfl) ?_
            refine lv_iload_n hx hb d_PC_cutBySide_60 rfl (lv_at hl 1 rfl) ?_
            refine lv_iload_n hx hb d_PC_cutBySide_61 rfl (lv_at hl 3 rfl) ?_
            have hPc := hP
            refine vp_callSl (va_Run.run (va_runV (As := [.int (nI 0), .int (nI sd)]) (rest := []) ⟨hx, hb, hml, hown, hts⟩ (k_PC_sideNumber l dC dI cJ cI ob wi hi fo gi gia gin gif ke kea kn kef sp spa (nI (pu_cs fo wi hi sd kn kef spf k).1) ((pu_cs fo wi hi sd kn kef spf k).2) pi pia pin pif fa fas fat faa fan faS faT faA 0 sd (by omega) (by omega) (by omega)) (cwV 2 hts (gd_V wd_141 wd_142 wd_7 wd_33 wd_143) rfl rfl rfl (by decide +kernel) ⟨Nat.le_of_ble_eq_true rfl, Nat.le_of_ble_eq_true rfl⟩) ⟨fb_ro, va_recv hK hPc (ci := 0) (q0 := 0) rfl rfl, pre_ro hK hN hPc⟩ rfl rfl hl.1 rfl (lv_room (Nat.le_of_ble_eq_true rfl)) d_PC_cutBySide_62 ⟨Nat.le_of_ble_eq_true rfl, Nat.le_of_ble_eq_true rfl⟩)) (fun r_16 er_16 => ?_)
            have er_16 : r_16 = pu_side fo wi hi sd kef 0 := er_16
            refine lv_lconst (v := 0) hx hb d_PC_cutBySide_65 (by decide) ?_
            refine W.lcmp hx hb d_PC_cutBySide_66 ?_
            refine lv_if_lt (tgt := 74) hx hb d_PC_cutBySide_67 (by decide) (fun c_17 => ?_) (fun c_17 => ?_)
            · rw [lg_cmp_lt] at c_17
              have c_17 : r_16 < 0 := c_17
              refine lv_iconst (v := 0) hx hb d_PC_cutBySide_74 (by decide) ?_
              refine lv_istore (lv' := [(5, .int 0), (4, .int 1), (3, .int 0), (0, .ref ob), (1, .int (nI sd)), (2, .int (nI k))]) hx hb d_PC_cutBySide_75 hl (by decide) rfl (fun ls hl => ?_)
              have hnx : pu_nx kn k = 0 := if_neg (by omega)
              have h1 : 0 ≤ pu_side fo wi hi sd kef k := by rw [← er_4]; exact st_ge c_5
              have h2 : ¬ 0 ≤ pu_side fo wi hi sd kef (pu_nx kn k) := by rw [hnx, ← er_16]; exact st_lt c_17
              have hstep := pu_cs_10 (n := kn) (N0 := spf) h1 h2
              have hroom := cb_top (fo := fo) (wi := wi) (hi := hi) (sd := sd) (R := kef) (N0 := spf) (show k < kn by omega) hkn
              rw [hstep] at hroom
              try dsimp only at hroom
              have hnl : 0 < kn := by omega
              rw [hnx] at hstep h2
              refine lv_iload hx hb d_PC_cutBySide_77 (lv_at hl 1 rfl) ?_
              refine lv_if_eq (tgt := 94) hx hb d_PC_cutBySide_79 (by decide) (fun c_18 => absurd c_18 (by decide)) (fun _ => ?_)
              refine lv_aload_n hx hb d_PC_cutBySide_82 rfl (lv_at hl 3 rfl) ?_
              refine va_get (D := (dC, dI)) (ci := 0) (v := .ref sp) (C := R_PC) (T := F_PC) (N := 8) hx hb hts (fun w h => mw (i_PC w h)) hown hK hP 0 rfl rfl 5 (by decide) (hts _ (mw wd_86)) (fun _ h9 => h9) rfl d_PC_cutBySide_83 ?_
              refine lv_aload_n hx hb d_PC_cutBySide_86 rfl (lv_at hl 3 rfl) ?_
              refine va_get (D := (dC, dI)) (ci := 0) (v := .ref ke) (C := R_PC) (T := F_PC) (N := 8) hx hb hts (fun w h => mw (i_PC w h)) hown hK hP 0 rfl rfl 4 (by decide) (hts _ (mw wd_85)) (fun _ h9 => h9) rfl d_PC_cutBySide_87 ?_
              refine lv_iload_n hx hb d_PC_cutBySide_90 rfl (lv_at hl 5 rfl) ?_
              have hPc := hP.sub (ws' := [(sp, .inr (1, [.ref spa, .int (nI (pu_cs fo wi hi sd kn kef spf k).1)])), (spa, .inl (cJ, 114, .inr (.inl ((pu_cs fo wi hi sd kn kef spf k).2)))), (ke, .inr (1, [.ref kea, .int (nI kn)])), (kea, .inl (cJ, 114, .inr (.inl kef)))]) [5, 6, 3, 4] rfl
              have hDc := hD.sub (ws' := [(sp, .inr (1, [.ref spa, .int (nI (pu_cs fo wi hi sd kn kef spf k).1)])), (spa, .inl (cJ, 114, .inr (.inl ((pu_cs fo wi hi sd kn kef spf k).2)))), (ke, .inr (1, [.ref kea, .int (nI kn)])), (kea, .inl (cJ, 114, .inr (.inl kef)))]) [5, 6, 3, 4] (by decide) rfl
              have hFc := va_free (wc := [(sp, .inr (1, [.ref spa, .int (nI (pu_cs fo wi hi sd kn kef spf k).1)])), (spa, .inl (cJ, 114, .inr (.inl ((pu_cs fo wi hi sd kn kef spf k).2)))), (ke, .inr (1, [.ref kea, .int (nI kn)])), (kea, .inl (cJ, 114, .inr (.inl kef)))]) hD hS hA [5, 6, 3, 4] rfl
              refine va_callv (va_runVN (As := [.ref ke, .int (nI k)]) (rest := []) ⟨hx, hb, hml, hown, hts⟩ (k_Ri_addCopy l dC dI cJ cI H.size sp spa ((pu_cs fo wi hi sd kn kef spf k).1) ((pu_cs fo wi hi sd kn kef spf k).2) ke kea kn kef k (by omega) (by omega) (by omega)) (⟨va_cnB 2 hts (gd_0 wd_132) rfl rfl rfl (hN _ nw_9) (hts _ (mw wd_35)) (by decide +kernel) ⟨Nat.le_of_ble_eq_true rfl, Nat.le_of_ble_eq_true rfl⟩, (hts _ (mw wd_131)), (hts _ (mw wd_4))⟩) ⟨fb_rw, va_recv hK hPc (ci := 1) (q0 := 0) rfl rfl, pre_rw hK hN hPc hDc⟩ rfl rfl hl.1 rfl (lv_room (Nat.le_of_ble_eq_true rfl)) d_PC_cutBySide_91 ⟨Nat.le_of_ble_eq_true rfl, Nat.le_of_ble_eq_true rfl⟩) hS (fun q _ h => hFc q h) hFc (fun u t H locs ht hvm hw hB hz1 hk1 hS => ?_)
              obtain ⟨hP1, hD1⟩ := hB
              rw [ht] at hP1
              obtain ⟨hP, hD⟩ := va_join (wr := [(ob, .inr (0, [.int wi, .int hi, .int fo, .ref gi, .ref ke, .ref sp, .ref pi, .ref fa])), (gi, .inr (1, [.ref gia, .int gin])), (gia, .inl (cJ, 114, .inr (.inl gif))), (pi, .inr (1, [.ref pia, .int pin])), (pia, .inl (cJ, 114, .inr (.inl pif))), (fa, .inr (2, [.ref fas, .ref fat, .ref faa, .int fan])), (fas, .inl (cI, 17, .inl faS)), (fat, .inl (cI, 17, .inl faT)), (faa, .inl (cI, 17, .inl faA))]) (w1 := [(sp, .inr (1, [.ref spa, .int (nI (((pu_cs fo wi hi sd kn kef spf k).1) + 1))])), (spa, .inl (cJ, 114, .inr (.inl (pu_put ((pu_cs fo wi hi sd kn kef spf k).2) ((pu_cs fo wi hi sd kn kef spf k).1) (fun j => kef (6 * k + j)))))), (ke, .inr (1, [.ref kea, .int (nI kn)])), (kea, .inl (cJ, 114, .inr (.inl kef)))]) hP hD [5, 6, 3, 4] [0, 1, 2, 7, 8, 9, 10, 11, 12] rfl rfl (by decide) (by decide) hk1 hFc hP1 hD1
              have hP : va_P (dC, dI) cls4 [(ob, .inr (0, [.int wi, .int hi, .int fo, .ref gi, .ref ke, .ref sp, .ref pi, .ref fa])), (gi, .inr (1, [.ref gia, .int gin])), (gia, .inl (cJ, 114, .inr (.inl gif))), (ke, .inr (1, [.ref kea, .int (nI kn)])), (kea, .inl (cJ, 114, .inr (.inl kef))), (sp, .inr (1, [.ref spa, .int (nI (((pu_cs fo wi hi sd kn kef spf k).1) + 1))])), (spa, .inl (cJ, 114, .inr (.inl (pu_put ((pu_cs fo wi hi sd kn kef spf k).2) ((pu_cs fo wi hi sd kn kef spf k).1) (fun j => kef (6 * k + j)))))), (pi, .inr (1, [.ref pia, .int pin])), (pia, .inl (cJ, 114, .inr (.inl pif))), (fa, .inr (2, [.ref fas, .ref fat, .ref faa, .int fan])), (fas, .inl (cI, 17, .inl faS)), (fat, .inl (cI, 17, .inl faT)), (faa, .inl (cI, 17, .inl faA))] H := hP.sub [0, 1, 2, 11, 12, 9, 10, 3, 4, 5, 6, 7, 8] rfl
              have hD : va_D A [(ob, .inr (0, [.int wi, .int hi, .int fo, .ref gi, .ref ke, .ref sp, .ref pi, .ref fa])), (gi, .inr (1, [.ref gia, .int gin])), (gia, .inl (cJ, 114, .inr (.inl gif))), (ke, .inr (1, [.ref kea, .int (nI kn)])), (kea, .inl (cJ, 114, .inr (.inl kef))), (sp, .inr (1, [.ref spa, .int (nI (((pu_cs fo wi hi sd kn kef spf k).1) + 1))])), (spa, .inl (cJ, 114, .inr (.inl (pu_put ((pu_cs fo wi hi sd kn kef spf k).2) ((pu_cs fo wi hi sd kn kef spf k).1) (fun j => kef (6 * k + j)))))), (pi, .inr (1, [.ref pia, .int pin])), (pia, .inl (cJ, 114, .inr (.inl pif))), (fa, .inr (2, [.ref fas, .ref fat, .ref faa, .int fan])), (fas, .inl (cI, 17, .inl faS)), (fat, .inl (cI, 17, .inl faT)), (faa, .inl (cI, 17, .inl faA))] := hD.sub [0, 1, 2, 11, 12, 9, 10, 3, 4, 5, 6, 7, 8] (by decide) rfl
              refine lv_iload hx hb d_PC_cutBySide_94 (lv_at hl 1 rfl) ?_
              refine lv_if_eq (tgt := 114) hx hb d_PC_cutBySide_96 (by decide) (fun c_19 => absurd c_19 (by decide)) (fun _ => ?_)
              refine lv_iload hx hb d_PC_cutBySide_99 (lv_at hl 0 rfl) ?_
              refine lv_if_ne (tgt := 114) hx hb d_PC_cutBySide_101 (by decide) (fun c_20 => absurd (by decide) c_20) (fun _ => ?_)
              refine lv_aload_n hx hb d_PC_cutBySide_104 rfl (lv_at hl 3 rfl) ?_
              refine lv_iload_n hx hb d_PC_cutBySide_105 rfl (lv_at hl 5 rfl) ?_
              refine lv_iload_n hx hb d_PC_cutBySide_106 rfl (lv_at hl 2 rfl) ?_
              refine lv_iload_n hx hb d_PC_cutBySide_107 rfl (lv_at hl 4 rfl) ?_
              have hPc := hP
              have hDc := hD.sub (ws' := [(ob, .inr (0, [.int wi, .int hi, .int fo, .ref gi, .ref ke, .ref sp, .ref pi, .ref fa])), (gi, .inr (1, [.ref gia, .int gin])), (gia, .inl (cJ, 114, .inr (.inl gif))), (ke, .inr (1, [.ref kea, .int (nI kn)])), (kea, .inl (cJ, 114, .inr (.inl kef))), (sp, .inr (1, [.ref spa, .int (nI (((pu_cs fo wi hi sd kn kef spf k).1) + 1))])), (spa, .inl (cJ, 114, .inr (.inl (pu_put ((pu_cs fo wi hi sd kn kef spf k).2) ((pu_cs fo wi hi sd kn kef spf k).1) (fun j => kef (6 * k + j)))))), (pi, .inr (1, [.ref pia, .int pin])), (pia, .inl (cJ, 114, .inr (.inl pif))), (fa, .inr (2, [.ref fas, .ref fat, .ref faa, .int fan])), (fas, .inl (cI, 17, .inl faS)), (fat, .inl (cI, 17, .inl faT)), (faa, .inl (cI, 17, .inl faA))]) [0, 1, 2, 3, 4, 5, 6, 7, 8, 9, 10, 11, 12] (by decide) rfl
              have hFc := va_free (wc := [(ob, .inr (0, [.int wi, .int hi, .int fo, .ref gi, .ref ke, .ref sp, .ref pi, .ref fa])), (gi, .inr (1, [.ref gia, .int gin])), (gia, .inl (cJ, 114, .inr (.inl gif))), (ke, .inr (1, [.ref kea, .int (nI kn)])), (kea, .inl (cJ, 114, .inr (.inl kef))), (sp, .inr (1, [.ref spa, .int (nI (((pu_cs fo wi hi sd kn kef spf k).1) + 1))])), (spa, .inl (cJ, 114, .inr (.inl (pu_put ((pu_cs fo wi hi sd kn kef spf k).2) ((pu_cs fo wi hi sd kn kef spf k).1) (fun j => kef (6 * k + j)))))), (pi, .inr (1, [.ref pia, .int pin])), (pia, .inl (cJ, 114, .inr (.inl pif))), (fa, .inr (2, [.ref fas, .ref fat, .ref faa, .int fan])), (fas, .inl (cI, 17, .inl faS)), (fat, .inl (cI, 17, .inl faT)), (faa, .inl (cI, 17, .inl faA))]) hD hS hA [0, 1, 2, 3, 4, 5, 6, 7, 8, 9, 10, 11, 12] rfl
              refine va_callv (va_runV (As := [.int (nI k), .int (nI 0), .int (nI sd)]) (rest := []) ⟨hx, hb, hml, hown, hts⟩ (k_PC_addBetween l dC dI cJ cI H.size ob wi hi fo gi gia gin gif ke kea kn kef sp spa (((pu_cs fo wi hi sd kn kef spf k).1) + 1) (pu_put ((pu_cs fo wi hi sd kn kef spf k).2) ((pu_cs fo wi hi sd kn kef spf k).1) (fun j => kef (6 * k + j))) pi pia pin pif fa fas fat faa fan faS faT faA k 0 sd (by omega) (by omega) (by omega) (by omega) (by omega) (cb_pos hfit (hc3 (k) (by omega)) (hc3 (0) (by omega)) h1 h2)) (cwV 3 hts (gd_V wd_145 wd_146 wd_8 wd_33 wd_147) rfl rfl rfl (by decide +kernel) ⟨Nat.le_of_ble_eq_true rfl, Nat.le_of_ble_eq_true rfl⟩) ⟨fb_rw, va_recv hK hPc (ci := 0) (q0 := 0) rfl rfl, pre_rw hK hN hPc hDc⟩ rfl rfl hl.1 rfl (lv_room (Nat.le_of_ble_eq_true rfl)) d_PC_cutBySide_108 ⟨Nat.le_of_ble_eq_true rfl, Nat.le_of_ble_eq_true rfl⟩) hS (fun q _ h => hFc q h) hFc (fun u t H locs ht hvm hw hB hz1 hk1 hS => ?_)
              obtain ⟨hP1, hD1⟩ := hB
              rw [ht] at hP1
              obtain ⟨hP, hD⟩ := va_join (wr := []) (w1 := [(ob, .inr (0, [.int wi, .int hi, .int fo, .ref gi, .ref ke, .ref sp, .ref pi, .ref fa])), (gi, .inr (1, [.ref gia, .int gin])), (gia, .inl (cJ, 114, .inr (.inl gif))), (ke, .inr (1, [.ref kea, .int (nI kn)])), (kea, .inl (cJ, 114, .inr (.inl kef))), (sp, .inr (1, [.ref spa, .int (nI ((((pu_cs fo wi hi sd kn kef spf k).1) + 1) + 1))])), (spa, .inl (cJ, 114, .inr (.inl (pu_put (pu_put ((pu_cs fo wi hi sd kn kef spf k).2) ((pu_cs fo wi hi sd kn kef spf k).1) (fun j => kef (6 * k + j))) (((pu_cs fo wi hi sd kn kef spf k).1) + 1) (pu_new fo wi hi sd kef k 0))))), (pi, .inr (1, [.ref pia, .int pin])), (pia, .inl (cJ, 114, .inr (.inl pif))), (fa, .inr (2, [.ref fas, .ref fat, .ref faa, .int fan])), (fas, .inl (cI, 17, .inl faS)), (fat, .inl (cI, 17, .inl faT)), (faa, .inl (cI, 17, .inl faA))]) hP hD [0, 1, 2, 3, 4, 5, 6, 7, 8, 9, 10, 11, 12] [] rfl rfl (by decide) (by decide) hk1 hFc hP1 hD1
              have hP : va_P (dC, dI) cls4 [(ob, .inr (0, [.int wi, .int hi, .int fo, .ref gi, .ref ke, .ref sp, .ref pi, .ref fa])), (gi, .inr (1, [.ref gia, .int gin])), (gia, .inl (cJ, 114, .inr (.inl gif))), (ke, .inr (1, [.ref kea, .int (nI kn)])), (kea, .inl (cJ, 114, .inr (.inl kef))), (sp, .inr (1, [.ref spa, .int (nI ((((pu_cs fo wi hi sd kn kef spf k).1) + 1) + 1))])), (spa, .inl (cJ, 114, .inr (.inl (pu_put (pu_put ((pu_cs fo wi hi sd kn kef spf k).2) ((pu_cs fo wi hi sd kn kef spf k).1) (fun j => kef (6 * k + j))) (((pu_cs fo wi hi sd kn kef spf k).1) + 1) (pu_new fo wi hi sd kef k 0))))), (pi, .inr (1, [.ref pia, .int pin])), (pia, .inl (cJ, 114, .inr (.inl pif))), (fa, .inr (2, [.ref fas, .ref fat, .ref faa, .int fan])), (fas, .inl (cI, 17, .inl faS)), (fat, .inl (cI, 17, .inl faT)), (faa, .inl (cI, 17, .inl faA))] H := hP
              have hD : va_D A [(ob, .inr (0, [.int wi, .int hi, .int fo, .ref gi, .ref ke, .ref sp, .ref pi, .ref fa])), (gi, .inr (1, [.ref gia, .int gin])), (gia, .inl (cJ, 114, .inr (.inl gif))), (ke, .inr (1, [.ref kea, .int (nI kn)])), (kea, .inl (cJ, 114, .inr (.inl kef))), (sp, .inr (1, [.ref spa, .int (nI ((((pu_cs fo wi hi sd kn kef spf k).1) + 1) + 1))])), (spa, .inl (cJ, 114, .inr (.inl (pu_put (pu_put ((pu_cs fo wi hi sd kn kef spf k).2) ((pu_cs fo wi hi sd kn kef spf k).1) (fun j => kef (6 * k + j))) (((pu_cs fo wi hi sd kn kef spf k).1) + 1) (pu_new fo wi hi sd kef k 0))))), (pi, .inr (1, [.ref pia, .int pin])), (pia, .inl (cJ, 114, .inr (.inl pif))), (fa, .inr (2, [.ref fas, .ref fat, .ref faa, .int fan])), (fas, .inl (cI, 17, .inl faS)), (fat, .inl (cI, 17, .inl faT)), (faa, .inl (cI, 17, .inl faA))] := hD
              refine lv_goto (tgt := 131) hx hb d_PC_cutBySide_111 (by decide) ?_
              refine lv_iinc (v := (nI (k + 1))) (lv' := [(2, .int (nI (k + 1))), (5, .int 0), (4, .int 1), (3, .int 0), (0, .ref ob), (1, .int (nI sd))]) hx hb d_PC_cutBySide_131 hl (k := 5) rfl (nI_1 k) (by decide) rfl (fun ls hl => ?_)
              refine lv_goto (tgt := 9) hx hb d_PC_cutBySide_134 (by decide) ?_
              refine ih (k + 1) (by omega) (by omega) _ _ ?_ ?_ hS ls (lv_sub hl [4, 5, 0] rfl)
              · rw [hstep]; exact hP
              · rw [hstep]; exact hD
            · rw [lg_cmp_lt] at c_17
              have c_17 : ¬ (r_16 < 0) := c_17
              refine lv_iconst (v := 1) hx hb d_PC_cutBySide_70 (by decide) ?_
              refine lv_goto (tgt := 75) hx hb d_PC_cutBySide_71 (by decide) ?_
              refine lv_istore (lv' := [(5, .int 1), (4, .int 1), (3, .int 0), (0, .ref ob), (1, .int (nI sd)), (2, .int (nI k))]) hx hb d_PC_cutBySide_75 hl (by decide) rfl (fun ls hl => ?_)
              have hnx : pu_nx kn k = 0 := if_neg (by omega)
              have h1 : 0 ≤ pu_side fo wi hi sd kef k := by rw [← er_4]; exact st_ge c_5
              have h2 : 0 ≤ pu_side fo wi hi sd kef (pu_nx kn k) := by rw [hnx, ← er_16]; exact st_ge c_17
              have hstep := pu_cs_11 (n := kn) (N0 := spf) h1 h2
              have hroom := cb_top (fo := fo) (wi := wi) (hi := hi) (sd := sd) (R := kef) (N0 := spf) (show k < kn by omega) hkn
              rw [hstep] at hroom
              try dsimp only at hroom
              have hnl : 0 < kn := by omega
              rw [hnx] at h2
              refine lv_iload hx hb d_PC_cutBySide_77 (lv_at hl 1 rfl) ?_
              refine lv_if_eq (tgt := 94) hx hb d_PC_cutBySide_79 (by decide) (fun c_21 => absurd c_21 (by decide)) (fun _ => ?_)
              refine lv_aload_n hx hb d_PC_cutBySide_82 rfl (lv_at hl 3 rfl) ?_
              refine va_get (D := (dC, dI)) (ci := 0) (v := .ref sp) (C := R_PC) (T := F_PC) (N := 8) hx hb hts (fun w h => mw (i_PC w h)) hown hK hP 0 rfl rfl 5 (by decide) (hts _ (mw wd_86)) (fun _ h9 => h9) rfl d_PC_cutBySide_83 ?_
              refine lv_aload_n hx hb d_PC_cutBySide_86 rfl (lv_at hl 3 rfl) ?_
              refine va_get (D := (dC, dI)) (ci := 0) (v := .ref ke) (C := R_PC) (T := F_PC) (N := 8) hx hb hts (fun w h => mw (i_PC w h)) hown hK hP 0 rfl rfl 4 (by decide) (hts _ (mw wd_85)) (fun _ h9 => h9) rfl d_PC_cutBySide_87 ?_
              refine lv_iload_n hx hb d_PC_cutBySide_90 rfl (lv_at hl 5 rfl) ?_
              have hPc := hP.sub (ws' := [(sp, .inr (1, [.ref spa, .int (nI (pu_cs fo wi hi sd kn kef spf k).1)])), (spa, .inl (cJ, 114, .inr (.inl ((pu_cs fo wi hi sd kn kef spf k).2)))), (ke, .inr (1, [.ref kea, .int (nI kn)])), (kea, .inl (cJ, 114, .inr (.inl kef)))]) [5, 6, 3, 4] rfl
              have hDc := hD.sub (ws' := [(sp, .inr (1, [.ref spa, .int (nI (pu_cs fo wi hi sd kn kef spf k).1)])), (spa, .inl (cJ, 114, .inr (.inl ((pu_cs fo wi hi sd kn kef spf k).2)))), (ke, .inr (1, [.ref kea, .int (nI kn)])), (kea, .inl (cJ, 114, .inr (.inl kef)))]) [5, 6, 3, 4] (by decide) rfl
              have hFc := va_free (wc := [(sp, .inr (1, [.ref spa, .int (nI (pu_cs fo wi hi sd kn kef spf k).1)])), (spa, .inl (cJ, 114, .inr (.inl ((pu_cs fo wi hi sd kn kef spf k).2)))), (ke, .inr (1, [.ref kea, .int (nI kn)])), (kea, .inl (cJ, 114, .inr (.inl kef)))]) hD hS hA [5, 6, 3, 4] rfl
              refine va_callv (va_runVN (As := [.ref ke, .int (nI k)]) (rest := []) ⟨hx, hb, hml, hown, hts⟩ (k_Ri_addCopy l dC dI cJ cI H.size sp spa ((pu_cs fo wi hi sd kn kef spf k).1) ((pu_cs fo wi hi sd kn kef spf k).2) ke kea kn kef k (by omega) (by omega) (by omega)) (⟨va_cnB 2 hts (gd_0 wd_132) rfl rfl rfl (hN _ nw_9) (hts _ (mw wd_35)) (by decide +kernel) ⟨Nat.le_of_ble_eq_true rfl, Nat.le_of_ble_eq_true rfl⟩, (hts _ (mw wd_131)), (hts _ (mw wd_4))⟩) ⟨fb_rw, va_recv hK hPc (ci := 1) (q0 := 0) rfl rfl, pre_rw hK hN hPc hDc⟩ rfl rfl hl.1 rfl (lv_room (Nat.le_of_ble_eq_true rfl)) d_PC_cutBySide_91 ⟨Nat.le_of_ble_eq_true rfl, Nat.le_of_ble_eq_true rfl⟩) hS (fun q _ h => hFc q h) hFc (fun u t H locs ht hvm hw hB hz1 hk1 hS => ?_)
              obtain ⟨hP1, hD1⟩ := hB
              rw [ht] at hP1
              obtain ⟨hP, hD⟩ := va_join (wr := [(ob, .inr (0, [.int wi, .int hi, .int fo, .ref gi, .ref ke, .ref sp, .ref pi, .ref fa])), (gi, .inr (1, [.ref gia, .int gin])), (gia, .inl (cJ, 114, .inr (.inl gif))), (pi, .inr (1, [.ref pia, .int pin])), (pia, .inl (cJ, 114, .inr (.inl pif))), (fa, .inr (2, [.ref fas, .ref fat, .ref faa, .int fan])), (fas, .inl (cI, 17, .inl faS)), (fat, .inl (cI, 17, .inl faT)), (faa, .inl (cI, 17, .inl faA))]) (w1 := [(sp, .inr (1, [.ref spa, .int (nI (((pu_cs fo wi hi sd kn kef spf k).1) + 1))])), (spa, .inl (cJ, 114, .inr (.inl (pu_put ((pu_cs fo wi hi sd kn kef spf k).2) ((pu_cs fo wi hi sd kn kef spf k).1) (fun j => kef (6 * k + j)))))), (ke, .inr (1, [.ref kea, .int (nI kn)])), (kea, .inl (cJ, 114, .inr (.inl kef)))]) hP hD [5, 6, 3, 4] [0, 1, 2, 7, 8, 9, 10, 11, 12] rfl rfl (by decide) (by decide) hk1 hFc hP1 hD1
              have hP : va_P (dC, dI) cls4 [(ob, .inr (0, [.int wi, .int hi, .int fo, .ref gi, .ref ke, .ref sp, .ref pi, .ref fa])), (gi, .inr (1, [.ref gia, .int gin])), (gia, .inl (cJ, 114, .inr (.inl gif))), (ke, .inr (1, [.ref kea, .int (nI kn)])), (kea, .inl (cJ, 114, .inr (.inl kef))), (sp, .inr (1, [.ref spa, .int (nI (((pu_cs fo wi hi sd kn kef spf k).1) + 1))])), (spa, .inl (cJ, 114, .inr (.inl (pu_put ((pu_cs fo wi hi sd kn kef spf k).2) ((pu_cs fo wi hi sd kn kef spf k).1) (fun j => kef (6 * k + j)))))), (pi, .inr (1, [.ref pia, .int pin])), (pia, .inl (cJ, 114, .inr (.inl pif))), (fa, .inr (2, [.ref fas, .ref fat, .ref faa, .int fan])), (fas, .inl (cI, 17, .inl faS)), (fat, .inl (cI, 17, .inl faT)), (faa, .inl (cI, 17, .inl faA))] H := hP.sub [0, 1, 2, 11, 12, 9, 10, 3, 4, 5, 6, 7, 8] rfl
              have hD : va_D A [(ob, .inr (0, [.int wi, .int hi, .int fo, .ref gi, .ref ke, .ref sp, .ref pi, .ref fa])), (gi, .inr (1, [.ref gia, .int gin])), (gia, .inl (cJ, 114, .inr (.inl gif))), (ke, .inr (1, [.ref kea, .int (nI kn)])), (kea, .inl (cJ, 114, .inr (.inl kef))), (sp, .inr (1, [.ref spa, .int (nI (((pu_cs fo wi hi sd kn kef spf k).1) + 1))])), (spa, .inl (cJ, 114, .inr (.inl (pu_put ((pu_cs fo wi hi sd kn kef spf k).2) ((pu_cs fo wi hi sd kn kef spf k).1) (fun j => kef (6 * k + j)))))), (pi, .inr (1, [.ref pia, .int pin])), (pia, .inl (cJ, 114, .inr (.inl pif))), (fa, .inr (2, [.ref fas, .ref fat, .ref faa, .int fan])), (fas, .inl (cI, 17, .inl faS)), (fat, .inl (cI, 17, .inl faT)), (faa, .inl (cI, 17, .inl faA))] := hD.sub [0, 1, 2, 11, 12, 9, 10, 3, 4, 5, 6, 7, 8] (by decide) rfl
              refine lv_iload hx hb d_PC_cutBySide_94 (lv_at hl 1 rfl) ?_
              refine lv_if_eq (tgt := 114) hx hb d_PC_cutBySide_96 (by decide) (fun c_22 => absurd c_22 (by decide)) (fun _ => ?_)
              refine lv_iload hx hb d_PC_cutBySide_99 (lv_at hl 0 rfl) ?_
              refine lv_if_ne (tgt := 114) hx hb d_PC_cutBySide_101 (by decide) (fun _ => ?_) (fun c_23 => absurd c_23 (by decide))
              refine lv_iload hx hb d_PC_cutBySide_114 (lv_at hl 1 rfl) ?_
              refine lv_if_ne (tgt := 131) hx hb d_PC_cutBySide_116 (by decide) (fun _ => ?_) (fun c_24 => absurd c_24 (by decide))
              refine lv_iinc (v := (nI (k + 1))) (lv' := [(2, .int (nI (k + 1))), (5, .int 1), (4, .int 1), (3, .int 0), (0, .ref ob), (1, .int (nI sd))]) hx hb d_PC_cutBySide_131 hl (k := 5) rfl (nI_1 k) (by decide) rfl (fun ls hl => ?_)
              refine lv_goto (tgt := 9) hx hb d_PC_cutBySide_134 (by decide) ?_
              refine ih (k + 1) (by omega) (by omega) _ _ ?_ ?_ hS ls (lv_sub hl [4, 5, 0] rfl)
              · rw [hstep]; exact hP
              · rw [hstep]; exact hD
        · have c_3 : ¬ (nI kn ≤ nI (k + 1)) := c_3
          rw [nI_leI (by omega) (by omega)] at c_3
          have c_3 : ¬ (kn ≤ (k + 1)) := c_3
          refine lv_iload_n hx hb d_PC_cutBySide_33 rfl (lv_at hl 2 rfl) ?_
          refine lv_iconst (v := 1) hx hb d_PC_cutBySide_34 (by decide) ?_
          refine lv_iadd hx hb d_PC_cutBySide_35 ?_
          refine lv_topi (fun y_25 ey_25 => ?_)
          have ey_25 : y_25 = nI (k + 1) := by rw [ey_25]; first | rfl | (simp only [nk_set_0, nk_set_1, nk_set_2, nk_set_3, nk_set_4, nk_set_5, nk_set_6, nk_set_7, nk_set_12, nk_set_13, nk_set_18, pk_mul, nI_add]; done) | (simp only [nk_set_0, nk_set_1, nk_set_2, nk_set_3, nk_set_4, nk_set_5, nk_set_6, nk_set_7, nk_set_12, nk_set_13, nk_set_18, pk_mul, nI_add]; exact congrArg nI (by omega))
          subst ey_25
          refine lv_goto (tgt := 40) hx hb d_PC_cutBySide_36 (by decide) ?_
          refine lv_istore_n (lv' := [(3, .int (nI (k + 1))), (0, .ref ob), (1, .int (nI sd)), (2, .int (nI k))]) hx hb d_PC_cutBySide_40 rfl hl (by decide) rfl (fun ls hl => ?_)
          refine lv_aload_n hx hb d_PC_cutBySide_41 rfl (lv_at hl 1 rfl) ?_
          refine lv_iload_n hx hb d_PC_cutBySide_42 rfl (lv_at hl 3 rfl) ?_
          refine lv_iload_n hx hb d_PC_cutBySide_43 rfl (lv_at hl 2 rfl) ?_
          have hPc := hP
          refine vp_callSl (va_Run.run (va_runV (As := [.int (nI k), .int (nI sd)]) (rest := []) ⟨hx, hb, hml, hown, hts⟩ (k_PC_sideNumber l dC dI cJ cI ob wi hi fo gi gia gin gif ke kea kn kef sp spa (nI (pu_cs fo wi hi sd kn kef spf k).1) ((pu_cs fo wi hi sd kn kef spf k).2) pi pia pin pif fa fas fat faa fan faS faT faA k sd (by omega) (by omega) (by omega)) (cwV 2 hts (gd_V wd_141 wd_142 wd_7 wd_33 wd_143) rfl rfl rfl (by decide +kernel) ⟨Nat.le_of_ble_eq_true rfl, Nat.le_of_ble_eq_true rfl⟩) ⟨fb_ro, va_recv hK hPc (ci := 0) (q0 := 0) rfl rfl, pre_ro hK hN hPc⟩ rfl rfl hl.1 rfl (lv_room (Nat.le_of_ble_eq_true rfl)) d_PC_cutBySide_44 ⟨Nat.le_of_ble_eq_true rfl, Nat.le_of_ble_eq_true rfl⟩)) (fun r_26 er_26 => ?_)
          have er_26 : r_26 = pu_side fo wi hi sd kef k := er_26
          refine lv_lconst (v := 0) hx hb d_PC_cutBySide_47 (by decide) ?_
          refine W.lcmp hx hb d_PC_cutBySide_48 ?_
          refine lv_if_lt (tgt := 56) hx hb d_PC_cutBySide_49 (by decide) (fun c_27 => ?_) (fun c_27 => ?_)
          · rw [lg_cmp_lt] at c_27
            have c_27 : r_26 < 0 := c_27
            refine lv_iconst (v := 0) hx hb d_PC_cutBySide_56 (by decide) ?_
            refine lv_istore (lv' := [(4, .int 0), (3, .int (nI (k + 1))), (0, .ref ob), (1, .int (nI sd)), (2, .int (nI k))]) hx hb d_PC_cutBySide_57 hl (by decide) rfl (fun ls hl => ?_)
            refine lv_aload_n hx hb d_PC_cutBySide_59 rfl (lv_at hl 2 rfl) ?_
            refine lv_iload_n hx hb d_PC_cutBySide_60 rfl (lv_at hl 1 rfl) ?_
            refine lv_iload_n hx hb d_PC_cutBySide_61 rfl (lv_at hl 3 rfl) ?_
            have hPc := hP
            refine vp_callSl (va_Run.run (va_runV (As := [.int (nI (k + 1)), .int (nI sd)]) (rest := []) ⟨hx, hb, hml, hown, hts⟩ (k_PC_sideNumber l dC dI cJ cI ob wi hi fo gi gia gin gif ke kea kn kef sp spa (nI (pu_cs fo wi hi sd kn kef spf k).1) ((pu_cs fo wi hi sd kn kef spf k).2) pi pia pin pif fa fas fat faa fan faS faT faA (k + 1) sd (by omega) (by omega) (by omega)) (cwV 2 hts (gd_V wd_141 wd_142 wd_7 wd_33 wd_143) rfl rfl rfl (by decide +kernel) ⟨Nat.le_of_ble_eq_true rfl, Nat.le_of_ble_eq_true rfl⟩) ⟨fb_ro, va_recv hK hPc (ci := 0) (q0 := 0) rfl rfl, pre_ro hK hN hPc⟩ rfl rfl hl.1 rfl (lv_room (Nat.le_of_ble_eq_true rfl)) d_PC_cutBySide_62 ⟨Nat.le_of_ble_eq_true rfl, Nat.le_of_ble_eq_true rfl⟩)) (fun r_28 er_28 => ?_)
            have er_28 : r_28 = pu_side fo wi hi sd kef (k + 1) := er_28
            refine lv_lconst (v := 0) hx hb d_PC_cutBySide_65 (by decide) ?_
            refine W.lcmp hx hb d_PC_cutBySide_66 ?_
            refine lv_if_lt (tgt := 74) hx hb d_PC_cutBySide_67 (by decide) (fun c_29 => ?_) (fun c_29 => ?_)
            · rw [lg_cmp_lt] at c_29
              have c_29 : r_28 < 0 := c_29
              refine lv_iconst (v := 0) hx hb d_PC_cutBySide_74 (by decide) ?_
              refine lv_istore (lv' := [(5, .int 0), (4, .int 0), (3, .int (nI (k + 1))), (0, .ref ob), (1, .int (nI sd)), (2, .int (nI k))]) hx hb d_PC_cutBySide_75 hl (by decide) rfl (fun ls hl => ?_)
              have hnx : pu_nx kn k = k + 1 := if_pos (by omega)
              have h1 : ¬ 0 ≤ pu_side fo wi hi sd kef k := by rw [← er_26]; exact st_lt c_27
              have h2 : ¬ 0 ≤ pu_side fo wi hi sd kef (pu_nx kn k) := by rw [hnx, ← er_28]; exact st_lt c_29
              have hstep := pu_cs_00 (n := kn) (N0 := spf) h1 h2
              have hroom := cb_top (fo := fo) (wi := wi) (hi := hi) (sd := sd) (R := kef) (N0 := spf) (show k < kn by omega) hkn
              rw [hstep] at hroom
              try dsimp only at hroom
              have hnl : k + 1 < kn := by omega
              rw [hnx] at h2
              refine lv_iload hx hb d_PC_cutBySide_77 (lv_at hl 1 rfl) ?_
              refine lv_if_eq (tgt := 94) hx hb d_PC_cutBySide_79 (by decide) (fun _ => ?_) (fun c_30 => absurd (by decide) c_30)
              refine lv_iload hx hb d_PC_cutBySide_94 (lv_at hl 1 rfl) ?_
              refine lv_if_eq (tgt := 114) hx hb d_PC_cutBySide_96 (by decide) (fun _ => ?_) (fun c_31 => absurd (by decide) c_31)
              refine lv_iload hx hb d_PC_cutBySide_114 (lv_at hl 1 rfl) ?_
              refine lv_if_ne (tgt := 131) hx hb d_PC_cutBySide_116 (by decide) (fun c_32 => absurd (by decide) c_32) (fun _ => ?_)
              refine lv_iload hx hb d_PC_cutBySide_119 (lv_at hl 0 rfl) ?_
              refine lv_if_eq (tgt := 131) hx hb d_PC_cutBySide_121 (by decide) (fun _ => ?_) (fun c_33 => absurd (by decide) c_33)
              refine lv_iinc (v := (nI (k + 1))) (lv' := [(2, .int (nI (k + 1))), (5, .int 0), (4, .int 0), (3, .int (nI (k + 1))), (0, .ref ob), (1, .int (nI sd))]) hx hb d_PC_cutBySide_131 hl (k := 5) rfl (nI_1 k) (by decide) rfl (fun ls hl => ?_)
              refine lv_goto (tgt := 9) hx hb d_PC_cutBySide_134 (by decide) ?_
              refine ih (k + 1) (by omega) (by omega) _ _ ?_ ?_ hS ls (lv_sub hl [4, 5, 0] rfl)
              · rw [hstep]; exact hP
              · rw [hstep]; exact hD
            · rw [lg_cmp_lt] at c_29
              have c_29 : ¬ (r_28 < 0) := c_29
              refine lv_iconst (v := 1) hx hb d_PC_cutBySide_70 (by decide) ?_
              refine lv_goto (tgt := 75) hx hb d_PC_cutBySide_71 (by decide) ?_
              refine lv_istore (lv' := [(5, .int 1), (4, .int 0), (3, .int (nI (k + 1))), (0, .ref ob), (1, .int (nI sd)), (2, .int (nI k))]) hx hb d_PC_cutBySide_75 hl (by decide) rfl (fun ls hl => ?_)
              have hnx : pu_nx kn k = k + 1 := if_pos (by omega)
              have h1 : ¬ 0 ≤ pu_side fo wi hi sd kef k := by rw [← er_26]; exact st_lt c_27
              have h2 : 0 ≤ pu_side fo wi hi sd kef (pu_nx kn k) := by rw [hnx, ← er_28]; exact st_ge c_29
              have hstep := pu_cs_01 (n := kn) (N0 := spf) h1 h2
              have hroom := cb_top (fo := fo) (wi := wi) (hi := hi) (sd := sd) (R := kef) (N0 := spf) (show k < kn by omega) hkn
              rw [hstep] at hroom
              try dsimp only at hroom
              have hnl : k + 1 < kn := by omega
              rw [hnx] at hstep h2
              refine lv_iload hx hb d_PC_cutBySide_77 (lv_at hl 1 rfl) ?_
              refine lv_if_eq (tgt := 94) hx hb d_PC_cutBySide_79 (by decide) (fun _ => ?_) (fun c_34 => absurd (by decide) c_34)
              refine lv_iload hx hb d_PC_cutBySide_94 (lv_at hl 1 rfl) ?_
              refine lv_if_eq (tgt := 114) hx hb d_PC_cutBySide_96 (by decide) (fun _ => ?_) (fun c_35 => absurd (by decide) c_35)
              refine lv_iload hx hb d_PC_cutBySide_114 (lv_at hl 1 rfl) ?_
              refine lv_if_ne (tgt := 131) hx hb d_PC_cutBySide_116 (by decide) (fun c_36 => absurd (by decide) c_36) (fun _ => ?_)
              refine lv_iload hx hb d_PC_cutBySide_119 (lv_at hl 0 rfl) ?_
              refine lv_if_eq (tgt := 131) hx hb d_PC_cutBySide_121 (by decide) (fun c_37 => absurd c_37 (by decide)) (fun _ => ?_)
              refine lv_aload_n hx hb d_PC_cutBySide_124 rfl (lv_at hl 3 rfl) ?_
              refine lv_iload_n hx hb d_PC_cutBySide_125 rfl (lv_at hl 2 rfl) ?_
              refine lv_iload_n hx hb d_PC_cutBySide_126 rfl (lv_at hl 5 rfl) ?_
              refine lv_iload_n hx hb d_PC_cutBySide_127 rfl (lv_at hl 4 rfl) ?_
              have hPc := hP
              have hDc := hD.sub (ws' := [(ob, .inr (0, [.int wi, .int hi, .int fo, .ref gi, .ref ke, .ref sp, .ref pi, .ref fa])), (gi, .inr (1, [.ref gia, .int gin])), (gia, .inl (cJ, 114, .inr (.inl gif))), (ke, .inr (1, [.ref kea, .int (nI kn)])), (kea, .inl (cJ, 114, .inr (.inl kef))), (sp, .inr (1, [.ref spa, .int (nI (pu_cs fo wi hi sd kn kef spf k).1)])), (spa, .inl (cJ, 114, .inr (.inl ((pu_cs fo wi hi sd kn kef spf k).2)))), (pi, .inr (1, [.ref pia, .int pin])), (pia, .inl (cJ, 114, .inr (.inl pif))), (fa, .inr (2, [.ref fas, .ref fat, .ref faa, .int fan])), (fas, .inl (cI, 17, .inl faS)), (fat, .inl (cI, 17, .inl faT)), (faa, .inl (cI, 17, .inl faA))]) [0, 1, 2, 3, 4, 5, 6, 7, 8, 9, 10, 11, 12] (by decide) rfl
              have hFc := va_free (wc := [(ob, .inr (0, [.int wi, .int hi, .int fo, .ref gi, .ref ke, .ref sp, .ref pi, .ref fa])), (gi, .inr (1, [.ref gia, .int gin])), (gia, .inl (cJ, 114, .inr (.inl gif))), (ke, .inr (1, [.ref kea, .int (nI kn)])), (kea, .inl (cJ, 114, .inr (.inl kef))), (sp, .inr (1, [.ref spa, .int (nI (pu_cs fo wi hi sd kn kef spf k).1)])), (spa, .inl (cJ, 114, .inr (.inl ((pu_cs fo wi hi sd kn kef spf k).2)))), (pi, .inr (1, [.ref pia, .int pin])), (pia, .inl (cJ, 114, .inr (.inl pif))), (fa, .inr (2, [.ref fas, .ref fat, .ref faa, .int fan])), (fas, .inl (cI, 17, .inl faS)), (fat, .inl (cI, 17, .inl faT)), (faa, .inl (cI, 17, .inl faA))]) hD hS hA [0, 1, 2, 3, 4, 5, 6, 7, 8, 9, 10, 11, 12] rfl
              refine va_callv (va_runV (As := [.int (nI (k + 1)), .int (nI k), .int (nI sd)]) (rest := []) ⟨hx, hb, hml, hown, hts⟩ (k_PC_addBetween l dC dI cJ cI H.size ob wi hi fo gi gia gin gif ke kea kn kef sp spa ((pu_cs fo wi hi sd kn kef spf k).1) ((pu_cs fo wi hi sd kn kef spf k).2) pi pia pin pif fa fas fat faa fan faS faT faA (k + 1) k sd (by omega) (by omega) (by omega) (by omega) (by omega) (cb_pos hfit (hc3 (k + 1) (by omega)) (hc3 (k) (by omega)) h2 h1)) (cwV 3 hts (gd_V wd_145 wd_146 wd_8 wd_33 wd_147) rfl rfl rfl (by decide +kernel) ⟨Nat.le_of_ble_eq_true rfl, Nat.le_of_ble_eq_true rfl⟩) ⟨fb_rw, va_recv hK hPc (ci := 0) (q0 := 0) rfl rfl, pre_rw hK hN hPc hDc⟩ rfl rfl hl.1 rfl (lv_room (Nat.le_of_ble_eq_true rfl)) d_PC_cutBySide_128 ⟨Nat.le_of_ble_eq_true rfl, Nat.le_of_ble_eq_true rfl⟩) hS (fun q _ h => hFc q h) hFc (fun u t H locs ht hvm hw hB hz1 hk1 hS => ?_)
              obtain ⟨hP1, hD1⟩ := hB
              rw [ht] at hP1
              obtain ⟨hP, hD⟩ := va_join (wr := []) (w1 := [(ob, .inr (0, [.int wi, .int hi, .int fo, .ref gi, .ref ke, .ref sp, .ref pi, .ref fa])), (gi, .inr (1, [.ref gia, .int gin])), (gia, .inl (cJ, 114, .inr (.inl gif))), (ke, .inr (1, [.ref kea, .int (nI kn)])), (kea, .inl (cJ, 114, .inr (.inl kef))), (sp, .inr (1, [.ref spa, .int (nI (((pu_cs fo wi hi sd kn kef spf k).1) + 1))])), (spa, .inl (cJ, 114, .inr (.inl (pu_put ((pu_cs fo wi hi sd kn kef spf k).2) ((pu_cs fo wi hi sd kn kef spf k).1) (pu_new fo wi hi sd kef (k + 1) k))))), (pi, .inr (1, [.ref pia, .int pin])), (pia, .inl (cJ, 114, .inr (.inl pif))), (fa, .inr (2, [.ref fas, .ref fat, .ref faa, .int fan])), (fas, .inl (cI, 17, .inl faS)), (fat, .inl (cI, 17, .inl faT)), (faa, .inl (cI, 17, .inl faA))]) hP hD [0, 1, 2, 3, 4, 5, 6, 7, 8, 9, 10, 11, 12] [] rfl rfl (by decide) (by decide) hk1 hFc hP1 hD1
              have hP : va_P (dC, dI) cls4 [(ob, .inr (0, [.int wi, .int hi, .int fo, .ref gi, .ref ke, .ref sp, .ref pi, .ref fa])), (gi, .inr (1, [.ref gia, .int gin])), (gia, .inl (cJ, 114, .inr (.inl gif))), (ke, .inr (1, [.ref kea, .int (nI kn)])), (kea, .inl (cJ, 114, .inr (.inl kef))), (sp, .inr (1, [.ref spa, .int (nI (((pu_cs fo wi hi sd kn kef spf k).1) + 1))])), (spa, .inl (cJ, 114, .inr (.inl (pu_put ((pu_cs fo wi hi sd kn kef spf k).2) ((pu_cs fo wi hi sd kn kef spf k).1) (pu_new fo wi hi sd kef (k + 1) k))))), (pi, .inr (1, [.ref pia, .int pin])), (pia, .inl (cJ, 114, .inr (.inl pif))), (fa, .inr (2, [.ref fas, .ref fat, .ref faa, .int fan])), (fas, .inl (cI, 17, .inl faS)), (fat, .inl (cI, 17, .inl faT)), (faa, .inl (cI, 17, .inl faA))] H := hP
              have hD : va_D A [(ob, .inr (0, [.int wi, .int hi, .int fo, .ref gi, .ref ke, .ref sp, .ref pi, .ref fa])), (gi, .inr (1, [.ref gia, .int gin])), (gia, .inl (cJ, 114, .inr (.inl gif))), (ke, .inr (1, [.ref kea, .int (nI kn)])), (kea, .inl (cJ, 114, .inr (.inl kef))), (sp, .inr (1, [.ref spa, .int (nI (((pu_cs fo wi hi sd kn kef spf k).1) + 1))])), (spa, .inl (cJ, 114, .inr (.inl (pu_put ((pu_cs fo wi hi sd kn kef spf k).2) ((pu_cs fo wi hi sd kn kef spf k).1) (pu_new fo wi hi sd kef (k + 1) k))))), (pi, .inr (1, [.ref pia, .int pin])), (pia, .inl (cJ, 114, .inr (.inl pif))), (fa, .inr (2, [.ref fas, .ref fat, .ref faa, .int fan])), (fas, .inl (cI, 17, .inl faS)), (fat, .inl (cI, 17, .inl faT)), (faa, .inl (cI, 17, .inl faA))] := hD
              refine lv_iinc (v := (nI (k + 1))) (lv' := [(2, .int (nI (k + 1))), (5, .int 1), (4, .int 0), (3, .int (nI (k + 1))), (0, .ref ob), (1, .int (nI sd))]) hx hb d_PC_cutBySide_131 hl (k := 5) rfl (nI_1 k) (by decide) rfl (fun ls hl => ?_)
              refine lv_goto (tgt := 9) hx hb d_PC_cutBySide_134 (by decide) ?_
              refine ih (k + 1) (by omega) (by omega) _ _ ?_ ?_ hS ls (lv_sub hl [4, 5, 0] rfl)
              · rw [hstep]; exact hP
              · rw [hstep]; exact hD
          · rw [lg_cmp_lt] at c_27
            have c_27 : ¬ (r_26 < 0) := c_27
            refine lv_iconst (v := 1) hx hb d_PC_cutBySide_52 (by decide) ?_
            refine lv_goto (tgt := 57) hx hb d_PC_cutBySide_53 (by decide) ?_
            refine lv_istore (lv' := [(4, .int 1), (3, .int (nI (k + 1))), (0, .ref ob), (1, .int (nI sd)), (2, .int (nI k))]) hx hb d_PC_cutBySide_57 hl (by decide) rfl (fun ls hl => ?_)
            refine lv_aload_n hx hb d_PC_cutBySide_59 rfl (lv_at hl 2 rfl) ?_
            refine lv_iload_n hx hb d_PC_cutBySide_60 rfl (lv_at hl 1 rfl) ?_
            refine lv_iload_n hx hb d_PC_cutBySide_61 rfl (lv_at hl 3 rfl) ?_
            have hPc := hP
            refine vp_callSl (va_Run.run (va_runV (As := [.int (nI (k + 1)), .int (nI sd)]) (rest := []) ⟨hx, hb, hml, hown, hts⟩ (k_PC_sideNumber l dC dI cJ cI ob wi hi fo gi gia gin gif ke kea kn kef sp spa (nI (pu_cs fo wi hi sd kn kef spf k).1) ((pu_cs fo wi hi sd kn kef spf k).2) pi pia pin pif fa fas fat faa fan faS faT faA (k + 1) sd (by omega) (by omega) (by omega)) (cwV 2 hts (gd_V wd_141 wd_142 wd_7 wd_33 wd_143) rfl rfl rfl (by decide +kernel) ⟨Nat.le_of_ble_eq_true rfl, Nat.le_of_ble_eq_true rfl⟩) ⟨fb_ro, va_recv hK hPc (ci := 0) (q0 := 0) rfl rfl, pre_ro hK hN hPc⟩ rfl rfl hl.1 rfl (lv_room (Nat.le_of_ble_eq_true rfl)) d_PC_cutBySide_62 ⟨Nat.le_of_ble_eq_true rfl, Nat.le_of_ble_eq_true rfl⟩)) (fun r_38 er_38 => ?_)
            have er_38 : r_38 = pu_side fo wi hi sd kef (k + 1) := er_38
            refine lv_lconst (v := 0) hx hb d_PC_cutBySide_65 (by decide) ?_
            refine W.lcmp hx hb d_PC_cutBySide_66 ?_
            refine lv_if_lt (tgt := 74) hx hb d_PC_cutBySide_67 (by decide) (fun c_39 => ?_) (fun c_39 => ?_)
            · rw [lg_cmp_lt] at c_39
              have c_39 : r_38 < 0 := c_39
              refine lv_iconst (v := 0) hx hb d_PC_cutBySide_74 (by decide) ?_
              refine lv_istore (lv' := [(5, .int 0), (4, .int 1), (3, .int (nI (k + 1))), (0, .ref ob), (1, .int (nI sd)), (2, .int (nI k))]) hx hb d_PC_cutBySide_75 hl (by decide) rfl (fun ls hl => ?_)
              have hnx : pu_nx kn k = k + 1 := if_pos (by omega)
              have h1 : 0 ≤ pu_side fo wi hi sd kef k := by rw [← er_26]; exact st_ge c_27
              have h2 : ¬ 0 ≤ pu_side fo wi hi sd kef (pu_nx kn k) := by rw [hnx, ← er_38]; exact st_lt c_39
              have hstep := pu_cs_10 (n := kn) (N0 := spf) h1 h2
              have hroom := cb_top (fo := fo) (wi := wi) (hi := hi) (sd := sd) (R := kef) (N0 := spf) (show k < kn by omega) hkn
              rw [hstep] at hroom
              try dsimp only at hroom
              have hnl : k + 1 < kn := by omega
              rw [hnx] at hstep h2
              refine lv_iload hx hb d_PC_cutBySide_77 (lv_at hl 1 rfl) ?_
              refine lv_if_eq (tgt := 94) hx hb d_PC_cutBySide_79 (by decide) (fun c_40 => absurd c_40 (by decide)) (fun _ => ?_)
              refine lv_aload_n hx hb d_PC_cutBySide_82 rfl (lv_at hl 3 rfl) ?_
              refine va_get (D := (dC, dI)) (ci := 0) (v := .ref sp) (C := R_PC) (T := F_PC) (N := 8) hx hb hts (fun w h => mw (i_PC w h)) hown hK hP 0 rfl rfl 5 (by decide) (hts _ (mw wd_86)) (fun _ h9 => h9) rfl d_PC_cutBySide_83 ?_
              refine lv_aload_n hx hb d_PC_cutBySide_86 rfl (lv_at hl 3 rfl) ?_
              refine va_get (D := (dC, dI)) (ci := 0) (v := .ref ke) (C := R_PC) (T := F_PC) (N := 8) hx hb hts (fun w h => mw (i_PC w h)) hown hK hP 0 rfl rfl 4 (by decide) (hts _ (mw wd_85)) (fun _ h9 => h9) rfl d_PC_cutBySide_87 ?_
              refine lv_iload_n hx hb d_PC_cutBySide_90 rfl (lv_at hl 5 rfl) ?_
              have hPc := hP.sub (ws' := [(sp, .inr (1, [.ref spa, .int (nI (pu_cs fo wi hi sd kn kef spf k).1)])), (spa, .inl (cJ, 114, .inr (.inl ((pu_cs fo wi hi sd kn kef spf k).2)))), (ke, .inr (1, [.ref kea, .int (nI kn)])), (kea, .inl (cJ, 114, .inr (.inl kef)))]) [5, 6, 3, 4] rfl
              have hDc := hD.sub (ws' := [(sp, .inr (1, [.ref spa, .int (nI (pu_cs fo wi hi sd kn kef spf k).1)])), (spa, .inl (cJ, 114, .inr (.inl ((pu_cs fo wi hi sd kn kef spf k).2)))), (ke, .inr (1, [.ref kea, .int (nI kn)])), (kea, .inl (cJ, 114, .inr (.inl kef)))]) [5, 6, 3, 4] (by decide) rfl
              have hFc := va_free (wc := [(sp, .inr (1, [.ref spa, .int (nI (pu_cs fo wi hi sd kn kef spf k).1)])), (spa, .inl (cJ, 114, .inr (.inl ((pu_cs fo wi hi sd kn kef spf k).2)))), (ke, .inr (1, [.ref kea, .int (nI kn)])), (kea, .inl (cJ, 114, .inr (.inl kef)))]) hD hS hA [5, 6, 3, 4] rfl
              refine va_callv (va_runVN (As := [.ref ke, .int (nI k)]) (rest := []) ⟨hx, hb, hml, hown, hts⟩ (k_Ri_addCopy l dC dI cJ cI H.size sp spa ((pu_cs fo wi hi sd kn kef spf k).1) ((pu_cs fo wi hi sd kn kef spf k).2) ke kea kn kef k (by omega) (by omega) (by omega)) (⟨va_cnB 2 hts (gd_0 wd_132) rfl rfl rfl (hN _ nw_9) (hts _ (mw wd_35)) (by decide +kernel) ⟨Nat.le_of_ble_eq_true rfl, Nat.le_of_ble_eq_true rfl⟩, (hts _ (mw wd_131)), (hts _ (mw wd_4))⟩) ⟨fb_rw, va_recv hK hPc (ci := 1) (q0 := 0) rfl rfl, pre_rw hK hN hPc hDc⟩ rfl rfl hl.1 rfl (lv_room (Nat.le_of_ble_eq_true rfl)) d_PC_cutBySide_91 ⟨Nat.le_of_ble_eq_true rfl, Nat.le_of_ble_eq_true rfl⟩) hS (fun q _ h => hFc q h) hFc (fun u t H locs ht hvm hw hB hz1 hk1 hS => ?_)
              obtain ⟨hP1, hD1⟩ := hB
              rw [ht] at hP1
              obtain ⟨hP, hD⟩ := va_join (wr := [(ob, .inr (0, [.int wi, .int hi, .int fo, .ref gi, .ref ke, .ref sp, .ref pi, .ref fa])), (gi, .inr (1, [.ref gia, .int gin])), (gia, .inl (cJ, 114, .inr (.inl gif))), (pi, .inr (1, [.ref pia, .int pin])), (pia, .inl (cJ, 114, .inr (.inl pif))), (fa, .inr (2, [.ref fas, .ref fat, .ref faa, .int fan])), (fas, .inl (cI, 17, .inl faS)), (fat, .inl (cI, 17, .inl faT)), (faa, .inl (cI, 17, .inl faA))]) (w1 := [(sp, .inr (1, [.ref spa, .int (nI (((pu_cs fo wi hi sd kn kef spf k).1) + 1))])), (spa, .inl (cJ, 114, .inr (.inl (pu_put ((pu_cs fo wi hi sd kn kef spf k).2) ((pu_cs fo wi hi sd kn kef spf k).1) (fun j => kef (6 * k + j)))))), (ke, .inr (1, [.ref kea, .int (nI kn)])), (kea, .inl (cJ, 114, .inr (.inl kef)))]) hP hD [5, 6, 3, 4] [0, 1, 2, 7, 8, 9, 10, 11, 12] rfl rfl (by decide) (by decide) hk1 hFc hP1 hD1
              have hP : va_P (dC, dI) cls4 [(ob, .inr (0, [.int wi, .int hi, .int fo, .ref gi, .ref ke, .ref sp, .ref pi, .ref fa])), (gi, .inr (1, [.ref gia, .int gin])), (gia, .inl (cJ, 114, .inr (.inl gif))), (ke, .inr (1, [.ref kea, .int (nI kn)])), (kea, .inl (cJ, 114, .inr (.inl kef))), (sp, .inr (1, [.ref spa, .int (nI (((pu_cs fo wi hi sd kn kef spf k).1) + 1))])), (spa, .inl (cJ, 114, .inr (.inl (pu_put ((pu_cs fo wi hi sd kn kef spf k).2) ((pu_cs fo wi hi sd kn kef spf k).1) (fun j => kef (6 * k + j)))))), (pi, .inr (1, [.ref pia, .int pin])), (pia, .inl (cJ, 114, .inr (.inl pif))), (fa, .inr (2, [.ref fas, .ref fat, .ref faa, .int fan])), (fas, .inl (cI, 17, .inl faS)), (fat, .inl (cI, 17, .inl faT)), (faa, .inl (cI, 17, .inl faA))] H := hP.sub [0, 1, 2, 11, 12, 9, 10, 3, 4, 5, 6, 7, 8] rfl
              have hD : va_D A [(ob, .inr (0, [.int wi, .int hi, .int fo, .ref gi, .ref ke, .ref sp, .ref pi, .ref fa])), (gi, .inr (1, [.ref gia, .int gin])), (gia, .inl (cJ, 114, .inr (.inl gif))), (ke, .inr (1, [.ref kea, .int (nI kn)])), (kea, .inl (cJ, 114, .inr (.inl kef))), (sp, .inr (1, [.ref spa, .int (nI (((pu_cs fo wi hi sd kn kef spf k).1) + 1))])), (spa, .inl (cJ, 114, .inr (.inl (pu_put ((pu_cs fo wi hi sd kn kef spf k).2) ((pu_cs fo wi hi sd kn kef spf k).1) (fun j => kef (6 * k + j)))))), (pi, .inr (1, [.ref pia, .int pin])), (pia, .inl (cJ, 114, .inr (.inl pif))), (fa, .inr (2, [.ref fas, .ref fat, .ref faa, .int fan])), (fas, .inl (cI, 17, .inl faS)), (fat, .inl (cI, 17, .inl faT)), (faa, .inl (cI, 17, .inl faA))] := hD.sub [0, 1, 2, 11, 12, 9, 10, 3, 4, 5, 6, 7, 8] (by decide) rfl
              refine lv_iload hx hb d_PC_cutBySide_94 (lv_at hl 1 rfl) ?_
              refine lv_if_eq (tgt := 114) hx hb d_PC_cutBySide_96 (by decide) (fun c_41 => absurd c_41 (by decide)) (fun _ => ?_)
              refine lv_iload hx hb d_PC_cutBySide_99 (lv_at hl 0 rfl) ?_
              refine lv_if_ne (tgt := 114) hx hb d_PC_cutBySide_101 (by decide) (fun c_42 => absurd (by decide) c_42) (fun _ => ?_)
              refine lv_aload_n hx hb d_PC_cutBySide_104 rfl (lv_at hl 3 rfl) ?_
              refine lv_iload_n hx hb d_PC_cutBySide_105 rfl (lv_at hl 5 rfl) ?_
              refine lv_iload_n hx hb d_PC_cutBySide_106 rfl (lv_at hl 2 rfl) ?_
              refine lv_iload_n hx hb d_PC_cutBySide_107 rfl (lv_at hl 4 rfl) ?_
              have hPc := hP
              have hDc := hD.sub (ws' := [(ob, .inr (0, [.int wi, .int hi, .int fo, .ref gi, .ref ke, .ref sp, .ref pi, .ref fa])), (gi, .inr (1, [.ref gia, .int gin])), (gia, .inl (cJ, 114, .inr (.inl gif))), (ke, .inr (1, [.ref kea, .int (nI kn)])), (kea, .inl (cJ, 114, .inr (.inl kef))), (sp, .inr (1, [.ref spa, .int (nI (((pu_cs fo wi hi sd kn kef spf k).1) + 1))])), (spa, .inl (cJ, 114, .inr (.inl (pu_put ((pu_cs fo wi hi sd kn kef spf k).2) ((pu_cs fo wi hi sd kn kef spf k).1) (fun j => kef (6 * k + j)))))), (pi, .inr (1, [.ref pia, .int pin])), (pia, .inl (cJ, 114, .inr (.inl pif))), (fa, .inr (2, [.ref fas, .ref fat, .ref faa, .int fan])), (fas, .inl (cI, 17, .inl faS)), (fat, .inl (cI, 17, .inl faT)), (faa, .inl (cI, 17, .inl faA))]) [0, 1, 2, 3, 4, 5, 6, 7, 8, 9, 10, 11, 12] (by decide) rfl
              have hFc := va_free (wc := [(ob, .inr (0, [.int wi, .int hi, .int fo, .ref gi, .ref ke, .ref sp, .ref pi, .ref fa])), (gi, .inr (1, [.ref gia, .int gin])), (gia, .inl (cJ, 114, .inr (.inl gif))), (ke, .inr (1, [.ref kea, .int (nI kn)])), (kea, .inl (cJ, 114, .inr (.inl kef))), (sp, .inr (1, [.ref spa, .int (nI (((pu_cs fo wi hi sd kn kef spf k).1) + 1))])), (spa, .inl (cJ, 114, .inr (.inl (pu_put ((pu_cs fo wi hi sd kn kef spf k).2) ((pu_cs fo wi hi sd kn kef spf k).1) (fun j => kef (6 * k + j)))))), (pi, .inr (1, [.ref pia, .int pin])), (pia, .inl (cJ, 114, .inr (.inl pif))), (fa, .inr (2, [.ref fas, .ref fat, .ref faa, .int fan])), (fas, .inl (cI, 17, .inl faS)), (fat, .inl (cI, 17, .inl faT)), (faa, .inl (cI, 17, .inl faA))]) hD hS hA [0, 1, 2, 3, 4, 5, 6, 7, 8, 9, 10, 11, 12] rfl
              refine va_callv (va_runV (As := [.int (nI k), .int (nI (k + 1)), .int (nI sd)]) (rest := []) ⟨hx, hb, hml, hown, hts⟩ (k_PC_addBetween l dC dI cJ cI H.size ob wi hi fo gi gia gin gif ke kea kn kef sp spa (((pu_cs fo wi hi sd kn kef spf k).1) + 1) (pu_put ((pu_cs fo wi hi sd kn kef spf k).2) ((pu_cs fo wi hi sd kn kef spf k).1) (fun j => kef (6 * k + j))) pi pia pin pif fa fas fat faa fan faS faT faA k (k + 1) sd (by omega) (by omega) (by omega) (by omega) (by omega) (cb_pos hfit (hc3 (k) (by omega)) (hc3 (k + 1) (by omega)) h1 h2)) (cwV 3 hts (gd_V wd_145 wd_146 wd_8 wd_33 wd_147) rfl rfl rfl (by decide +kernel) ⟨Nat.le_of_ble_eq_true rfl, Nat.le_of_ble_eq_true rfl⟩) ⟨fb_rw, va_recv hK hPc (ci := 0) (q0 := 0) rfl rfl, pre_rw hK hN hPc hDc⟩ rfl rfl hl.1 rfl (lv_room (Nat.le_of_ble_eq_true rfl)) d_PC_cutBySide_108 ⟨Nat.le_of_ble_eq_true rfl, Nat.le_of_ble_eq_true rfl⟩) hS (fun q _ h => hFc q h) hFc (fun u t H locs ht hvm hw hB hz1 hk1 hS => ?_)
              obtain ⟨hP1, hD1⟩ := hB
              rw [ht] at hP1
              obtain ⟨hP, hD⟩ := va_join (wr := []) (w1 := [(ob, .inr (0, [.int wi, .int hi, .int fo, .ref gi, .ref ke, .ref sp, .ref pi, .ref fa])), (gi, .inr (1, [.ref gia, .int gin])), (gia, .inl (cJ, 114, .inr (.inl gif))), (ke, .inr (1, [.ref kea, .int (nI kn)])), (kea, .inl (cJ, 114, .inr (.inl kef))), (sp, .inr (1, [.ref spa, .int (nI ((((pu_cs fo wi hi sd kn kef spf k).1) + 1) + 1))])), (spa, .inl (cJ, 114, .inr (.inl (pu_put (pu_put ((pu_cs fo wi hi sd kn kef spf k).2) ((pu_cs fo wi hi sd kn kef spf k).1) (fun j => kef (6 * k + j))) (((pu_cs fo wi hi sd kn kef spf k).1) + 1) (pu_new fo wi hi sd kef k (k + 1)))))), (pi, .inr (1, [.ref pia, .int pin])), (pia, .inl (cJ, 114, .inr (.inl pif))), (fa, .inr (2, [.ref fas, .ref fat, .ref faa, .int fan])), (fas, .inl (cI, 17, .inl faS)), (fat, .inl (cI, 17, .inl faT)), (faa, .inl (cI, 17, .inl faA))]) hP hD [0, 1, 2, 3, 4, 5, 6, 7, 8, 9, 10, 11, 12] [] rfl rfl (by decide) (by decide) hk1 hFc hP1 hD1
              have hP : va_P (dC, dI) cls4 [(ob, .inr (0, [.int wi, .int hi, .int fo, .ref gi, .ref ke, .ref sp, .ref pi, .ref fa])), (gi, .inr (1, [.ref gia, .int gin])), (gia, .inl (cJ, 114, .inr (.inl gif))), (ke, .inr (1, [.ref kea, .int (nI kn)])), (kea, .inl (cJ, 114, .inr (.inl kef))), (sp, .inr (1, [.ref spa, .int (nI ((((pu_cs fo wi hi sd kn kef spf k).1) + 1) + 1))])), (spa, .inl (cJ, 114, .inr (.inl (pu_put (pu_put ((pu_cs fo wi hi sd kn kef spf k).2) ((pu_cs fo wi hi sd kn kef spf k).1) (fun j => kef (6 * k + j))) (((pu_cs fo wi hi sd kn kef spf k).1) + 1) (pu_new fo wi hi sd kef k (k + 1)))))), (pi, .inr (1, [.ref pia, .int pin])), (pia, .inl (cJ, 114, .inr (.inl pif))), (fa, .inr (2, [.ref fas, .ref fat, .ref faa, .int fan])), (fas, .inl (cI, 17, .inl faS)), (fat, .inl (cI, 17, .inl faT)), (faa, .inl (cI, 17, .inl faA))] H := hP
              have hD : va_D A [(ob, .inr (0, [.int wi, .int hi, .int fo, .ref gi, .ref ke, .ref sp, .ref pi, .ref fa])), (gi, .inr (1, [.ref gia, .int gin])), (gia, .inl (cJ, 114, .inr (.inl gif))), (ke, .inr (1, [.ref kea, .int (nI kn)])), (kea, .inl (cJ, 114, .inr (.inl kef))), (sp, .inr (1, [.ref spa, .int (nI ((((pu_cs fo wi hi sd kn kef spf k).1) + 1) + 1))])), (spa, .inl (cJ, 114, .inr (.inl (pu_put (pu_put ((pu_cs fo wi hi sd kn kef spf k).2) ((pu_cs fo wi hi sd kn kef spf k).1) (fun j => kef (6 * k + j))) (((pu_cs fo wi hi sd kn kef spf k).1) + 1) (pu_new fo wi hi sd kef k (k + 1)))))), (pi, .inr (1, [.ref pia, .int pin])), (pia, .inl (cJ, 114, .inr (.inl pif))), (fa, .inr (2, [.ref fas, .ref fat, .ref faa, .int fan])), (fas, .inl (cI, 17, .inl faS)), (fat, .inl (cI, 17, .inl faT)), (faa, .inl (cI, 17, .inl faA))] := hD
              refine lv_goto (tgt := 131) hx hb d_PC_cutBySide_111 (by decide) ?_
              refine lv_iinc (v := (nI (k + 1))) (lv' := [(2, .int (nI (k + 1))), (5, .int 0), (4, .int 1), (3, .int (nI (k + 1))), (0, .ref ob), (1, .int (nI sd))]) hx hb d_PC_cutBySide_131 hl (k := 5) rfl (nI_1 k) (by decide) rfl (fun ls hl => ?_)
              refine lv_goto (tgt := 9) hx hb d_PC_cutBySide_134 (by decide) ?_
              refine ih (k + 1) (by omega) (by omega) _ _ ?_ ?_ hS ls (lv_sub hl [4, 5, 0] rfl)
              · rw [hstep]; exact hP
              · rw [hstep]; exact hD
            · rw [lg_cmp_lt] at c_39
              have c_39 : ¬ (r_38 < 0) := c_39
              refine lv_iconst (v := 1) hx hb d_PC_cutBySide_70 (by decide) ?_
              refine lv_goto (tgt := 75) hx hb d_PC_cutBySide_71 (by decide) ?_
              refine lv_istore (lv' := [(5, .int 1), (4, .int 1), (3, .int (nI (k + 1))), (0, .ref ob), (1, .int (nI sd)), (2, .int (nI k))]) hx hb d_PC_cutBySide_75 hl (by decide) rfl (fun ls hl => ?_)
              have hnx : pu_nx kn k = k + 1 := if_pos (by omega)
              have h1 : 0 ≤ pu_side fo wi hi sd kef k := by rw [← er_26]; exact st_ge c_27
              have h2 : 0 ≤ pu_side fo wi hi sd kef (pu_nx kn k) := by rw [hnx, ← er_38]; exact st_ge c_39
              have hstep := pu_cs_11 (n := kn) (N0 := spf) h1 h2
              have hroom := cb_top (fo := fo) (wi := wi) (hi := hi) (sd := sd) (R := kef) (N0 := spf) (show k < kn by omega) hkn
              rw [hstep] at hroom
              try dsimp only at hroom
              have hnl : k + 1 < kn := by omega
              rw [hnx] at h2
              refine lv_iload hx hb d_PC_cutBySide_77 (lv_at hl 1 rfl) ?_
              refine lv_if_eq (tgt := 94) hx hb d_PC_cutBySide_79 (by decide) (fun c_43 => absurd c_43 (by decide)) (fun _ => ?_)
              refine lv_aload_n hx hb d_PC_cutBySide_82 rfl (lv_at hl 3 rfl) ?_
              refine va_get (D := (dC, dI)) (ci := 0) (v := .ref sp) (C := R_PC) (T := F_PC) (N := 8) hx hb hts (fun w h => mw (i_PC w h)) hown hK hP 0 rfl rfl 5 (by decide) (hts _ (mw wd_86)) (fun _ h9 => h9) rfl d_PC_cutBySide_83 ?_
              refine lv_aload_n hx hb d_PC_cutBySide_86 rfl (lv_at hl 3 rfl) ?_
              refine va_get (D := (dC, dI)) (ci := 0) (v := .ref ke) (C := R_PC) (T := F_PC) (N := 8) hx hb hts (fun w h => mw (i_PC w h)) hown hK hP 0 rfl rfl 4 (by decide) (hts _ (mw wd_85)) (fun _ h9 => h9) rfl d_PC_cutBySide_87 ?_
              refine lv_iload_n hx hb d_PC_cutBySide_90 rfl (lv_at hl 5 rfl) ?_
              have hPc := hP.sub (ws' := [(sp, .inr (1, [.ref spa, .int (nI (pu_cs fo wi hi sd kn kef spf k).1)])), (spa, .inl (cJ, 114, .inr (.inl ((pu_cs fo wi hi sd kn kef spf k).2)))), (ke, .inr (1, [.ref kea, .int (nI kn)])), (kea, .inl (cJ, 114, .inr (.inl kef)))]) [5, 6, 3, 4] rfl
              have hDc := hD.sub (ws' := [(sp, .inr (1, [.ref spa, .int (nI (pu_cs fo wi hi sd kn kef spf k).1)])), (spa, .inl (cJ, 114, .inr (.inl ((pu_cs fo wi hi sd kn kef spf k).2)))), (ke, .inr (1, [.ref kea, .int (nI kn)])), (kea, .inl (cJ, 114, .inr (.inl kef)))]) [5, 6, 3, 4] (by decide) rfl
              have hFc := va_free (wc := [(sp, .inr (1, [.ref spa, .int (nI (pu_cs fo wi hi sd kn kef spf k).1)])), (spa, .inl (cJ, 114, .inr (.inl ((pu_cs fo wi hi sd kn kef spf k).2)))), (ke, .inr (1, [.ref kea, .int (nI kn)])), (kea, .inl (cJ, 114, .inr (.inl kef)))]) hD hS hA [5, 6, 3, 4] rfl
              refine va_callv (va_runVN (As := [.ref ke, .int (nI k)]) (rest := []) ⟨hx, hb, hml, hown, hts⟩ (k_Ri_addCopy l dC dI cJ cI H.size sp spa ((pu_cs fo wi hi sd kn kef spf k).1) ((pu_cs fo wi hi sd kn kef spf k).2) ke kea kn kef k (by omega) (by omega) (by omega)) (⟨va_cnB 2 hts (gd_0 wd_132) rfl rfl rfl (hN _ nw_9) (hts _ (mw wd_35)) (by decide +kernel) ⟨Nat.le_of_ble_eq_true rfl, Nat.le_of_ble_eq_true rfl⟩, (hts _ (mw wd_131)), (hts _ (mw wd_4))⟩) ⟨fb_rw, va_recv hK hPc (ci := 1) (q0 := 0) rfl rfl, pre_rw hK hN hPc hDc⟩ rfl rfl hl.1 rfl (lv_room (Nat.le_of_ble_eq_true rfl)) d_PC_cutBySide_91 ⟨Nat.le_of_ble_eq_true rfl, Nat.le_of_ble_eq_true rfl⟩) hS (fun q _ h => hFc q h) hFc (fun u t H locs ht hvm hw hB hz1 hk1 hS => ?_)
              obtain ⟨hP1, hD1⟩ := hB
              rw [ht] at hP1
              obtain ⟨hP, hD⟩ := va_join (wr := [(ob, .inr (0, [.int wi, .int hi, .int fo, .ref gi, .ref ke, .ref sp, .ref pi, .ref fa])), (gi, .inr (1, [.ref gia, .int gin])), (gia, .inl (cJ, 114, .inr (.inl gif))), (pi, .inr (1, [.ref pia, .int pin])), (pia, .inl (cJ, 114, .inr (.inl pif))), (fa, .inr (2, [.ref fas, .ref fat, .ref faa, .int fan])), (fas, .inl (cI, 17, .inl faS)), (fat, .inl (cI, 17, .inl faT)), (faa, .inl (cI, 17, .inl faA))]) (w1 := [(sp, .inr (1, [.ref spa, .int (nI (((pu_cs fo wi hi sd kn kef spf k).1) + 1))])), (spa, .inl (cJ, 114, .inr (.inl (pu_put ((pu_cs fo wi hi sd kn kef spf k).2) ((pu_cs fo wi hi sd kn kef spf k).1) (fun j => kef (6 * k + j)))))), (ke, .inr (1, [.ref kea, .int (nI kn)])), (kea, .inl (cJ, 114, .inr (.inl kef)))]) hP hD [5, 6, 3, 4] [0, 1, 2, 7, 8, 9, 10, 11, 12] rfl rfl (by decide) (by decide) hk1 hFc hP1 hD1
              have hP : va_P (dC, dI) cls4 [(ob, .inr (0, [.int wi, .int hi, .int fo, .ref gi, .ref ke, .ref sp, .ref pi, .ref fa])), (gi, .inr (1, [.ref gia, .int gin])), (gia, .inl (cJ, 114, .inr (.inl gif))), (ke, .inr (1, [.ref kea, .int (nI kn)])), (kea, .inl (cJ, 114, .inr (.inl kef))), (sp, .inr (1, [.ref spa, .int (nI (((pu_cs fo wi hi sd kn kef spf k).1) + 1))])), (spa, .inl (cJ, 114, .inr (.inl (pu_put ((pu_cs fo wi hi sd kn kef spf k).2) ((pu_cs fo wi hi sd kn kef spf k).1) (fun j => kef (6 * k + j)))))), (pi, .inr (1, [.ref pia, .int pin])), (pia, .inl (cJ, 114, .inr (.inl pif))), (fa, .inr (2, [.ref fas, .ref fat, .ref faa, .int fan])), (fas, .inl (cI, 17, .inl faS)), (fat, .inl (cI, 17, .inl faT)), (faa, .inl (cI, 17, .inl faA))] H := hP.sub [0, 1, 2, 11, 12, 9, 10, 3, 4, 5, 6, 7, 8] rfl
              have hD : va_D A [(ob, .inr (0, [.int wi, .int hi, .int fo, .ref gi, .ref ke, .ref sp, .ref pi, .ref fa])), (gi, .inr (1, [.ref gia, .int gin])), (gia, .inl (cJ, 114, .inr (.inl gif))), (ke, .inr (1, [.ref kea, .int (nI kn)])), (kea, .inl (cJ, 114, .inr (.inl kef))), (sp, .inr (1, [.ref spa, .int (nI (((pu_cs fo wi hi sd kn kef spf k).1) + 1))])), (spa, .inl (cJ, 114, .inr (.inl (pu_put ((pu_cs fo wi hi sd kn kef spf k).2) ((pu_cs fo wi hi sd kn kef spf k).1) (fun j => kef (6 * k + j)))))), (pi, .inr (1, [.ref pia, .int pin])), (pia, .inl (cJ, 114, .inr (.inl pif))), (fa, .inr (2, [.ref fas, .ref fat, .ref faa, .int fan])), (fas, .inl (cI, 17, .inl faS)), (fat, .inl (cI, 17, .inl faT)), (faa, .inl (cI, 17, .inl faA))] := hD.sub [0, 1, 2, 11, 12, 9, 10, 3, 4, 5, 6, 7, 8] (by decide) rfl
              refine lv_iload hx hb d_PC_cutBySide_94 (lv_at hl 1 rfl) ?_
              refine lv_if_eq (tgt := 114) hx hb d_PC_cutBySide_96 (by decide) (fun c_44 => absurd c_44 (by decide)) (fun _ => ?_)
              refine lv_iload hx hb d_PC_cutBySide_99 (lv_at hl 0 rfl) ?_
              refine lv_if_ne (tgt := 114) hx hb d_PC_cutBySide_101 (by decide) (fun _ => ?_) (fun c_45 => absurd c_45 (by decide))
              refine lv_iload hx hb d_PC_cutBySide_114 (lv_at hl 1 rfl) ?_
              refine lv_if_ne (tgt := 131) hx hb d_PC_cutBySide_116 (by decide) (fun _ => ?_) (fun c_46 => absurd c_46 (by decide))
              refine lv_iinc (v := (nI (k + 1))) (lv' := [(2, .int (nI (k + 1))), (5, .int 1), (4, .int 1), (3, .int (nI (k + 1))), (0, .ref ob), (1, .int (nI sd))]) hx hb d_PC_cutBySide_131 hl (k := 5) rfl (nI_1 k) (by decide) rfl (fun ls hl => ?_)
              refine lv_goto (tgt := 9) hx hb d_PC_cutBySide_134 (by decide) ?_
              refine ih (k + 1) (by omega) (by omega) _ _ ?_ ?_ hS ls (lv_sub hl [4, 5, 0] rfl)
              · rw [hstep]; exact hP
              · rw [hstep]; exact hD
  refine lv_aload_n hx hb d_PC_cutBySide_0 rfl (lv_at hl 0 rfl) ?_
  refine va_get (D := (dC, dI)) (ci := 0) (v := .ref sp) (C := R_PC) (T := F_PC) (N := 8) hx hb hts (fun w h => mw (i_PC w h)) hown hK hP 0 rfl rfl 5 (by decide) (hts _ (mw wd_86)) (fun _ h9 => h9) rfl d_PC_cutBySide_1 ?_
  have hPc := hP.sub (ws' := [(sp, .inr (1, [.ref spa, .int spn])), (spa, .inl (cJ, 114, .inr (.inl spf)))]) [5, 6] rfl
  have hDc := hD.sub (ws' := [(sp, .inr (1, [.ref spa, .int spn])), (spa, .inl (cJ, 114, .inr (.inl spf)))]) [5, 6] (by decide) rfl
  have hFc := va_free (wc := [(sp, .inr (1, [.ref spa, .int spn])), (spa, .inl (cJ, 114, .inr (.inl spf)))]) hD hS hA [5, 6] rfl
  refine va_callv (va_runVN (As := []) (rest := []) ⟨hx, hb, hml, hown, hts⟩ (c_Ri_clear l dC dI cJ cI s.heap.size sp spa spn spf) (⟨va_cnB 0 hts (gd_0 wd_130) rfl rfl rfl (hN _ nw_8) (hts _ (mw wd_35)) (by decide +kernel) ⟨Nat.le_of_ble_eq_true rfl, Nat.le_of_ble_eq_true rfl⟩, (hts _ (mw wd_129)), (hts _ (mw wd_3))⟩) ⟨fb_rw, va_recv hK hPc (ci := 1) (q0 := 0) rfl rfl, pre_rw hK hN hPc hDc⟩ rfl rfl hl.1 rfl (lv_room (Nat.le_of_ble_eq_true rfl)) d_PC_cutBySide_4 ⟨Nat.le_of_ble_eq_true rfl, Nat.le_of_ble_eq_true rfl⟩) hS (fun q _ h => hFc q h) hFc (fun u t H locs ht hvm hw hB hz1 hk1 hS => ?_)
  obtain ⟨hP1, hD1⟩ := hB
  rw [ht] at hP1
  obtain ⟨hP, hD⟩ := va_join (wr := [(ob, .inr (0, [.int wi, .int hi, .int fo, .ref gi, .ref ke, .ref sp, .ref pi, .ref fa])), (gi, .inr (1, [.ref gia, .int gin])), (gia, .inl (cJ, 114, .inr (.inl gif))), (ke, .inr (1, [.ref kea, .int (nI kn)])), (kea, .inl (cJ, 114, .inr (.inl kef))), (pi, .inr (1, [.ref pia, .int pin])), (pia, .inl (cJ, 114, .inr (.inl pif))), (fa, .inr (2, [.ref fas, .ref fat, .ref faa, .int fan])), (fas, .inl (cI, 17, .inl faS)), (fat, .inl (cI, 17, .inl faT)), (faa, .inl (cI, 17, .inl faA))]) (w1 := [(sp, .inr (1, [.ref spa, .int 0])), (spa, .inl (cJ, 114, .inr (.inl spf)))]) hP hD [5, 6] [0, 1, 2, 3, 4, 7, 8, 9, 10, 11, 12] rfl rfl (by decide) (by decide) hk1 hFc hP1 hD1
  have hP : va_P (dC, dI) cls4 [(ob, .inr (0, [.int wi, .int hi, .int fo, .ref gi, .ref ke, .ref sp, .ref pi, .ref fa])), (gi, .inr (1, [.ref gia, .int gin])), (gia, .inl (cJ, 114, .inr (.inl gif))), (ke, .inr (1, [.ref kea, .int (nI kn)])), (kea, .inl (cJ, 114, .inr (.inl kef))), (sp, .inr (1, [.ref spa, .int 0])), (spa, .inl (cJ, 114, .inr (.inl spf))), (pi, .inr (1, [.ref pia, .int pin])), (pia, .inl (cJ, 114, .inr (.inl pif))), (fa, .inr (2, [.ref fas, .ref fat, .ref faa, .int fan])), (fas, .inl (cI, 17, .inl faS)), (fat, .inl (cI, 17, .inl faT)), (faa, .inl (cI, 17, .inl faA))] H := hP.sub [0, 1, 2, 3, 4, 11, 12, 5, 6, 7, 8, 9, 10] rfl
  have hD : va_D A [(ob, .inr (0, [.int wi, .int hi, .int fo, .ref gi, .ref ke, .ref sp, .ref pi, .ref fa])), (gi, .inr (1, [.ref gia, .int gin])), (gia, .inl (cJ, 114, .inr (.inl gif))), (ke, .inr (1, [.ref kea, .int (nI kn)])), (kea, .inl (cJ, 114, .inr (.inl kef))), (sp, .inr (1, [.ref spa, .int 0])), (spa, .inl (cJ, 114, .inr (.inl spf))), (pi, .inr (1, [.ref pia, .int pin])), (pia, .inl (cJ, 114, .inr (.inl pif))), (fa, .inr (2, [.ref fas, .ref fat, .ref faa, .int fan])), (fas, .inl (cI, 17, .inl faS)), (fat, .inl (cI, 17, .inl faT)), (faa, .inl (cI, 17, .inl faA))] := hD.sub [0, 1, 2, 3, 4, 11, 12, 5, 6, 7, 8, 9, 10] (by decide) rfl
  refine lv_iconst (v := 0) hx hb d_PC_cutBySide_7 (by decide) ?_
  refine lv_istore_n (lv' := [(2, .int 0), (0, .ref ob), (1, .int (nI sd))]) hx hb d_PC_cutBySide_8 rfl hl (by decide) rfl (fun ls hl => ?_)
  exact LOOP (kn + 1) 0 (by omega) (by omega) _ _ hP hD hS ls (lv_sub hl [1, 2, 0] rfl)
