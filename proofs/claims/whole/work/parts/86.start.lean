set_option maxHeartbeats 16000000 in
set_option maxRecDepth 100000 in
theorem whole_start {p : Program} {e : Env} {s : State} {m : MethodId} {below : List Frame} {meth : Method} {c : Code} (l : Launch) {b L : Nat} {xs : Nat → Int32} (hL : L ≤ 2562) (C0 : lw_At p s m meth c b L xs) : W p l e room_1 s m #[Value.ref b] below meth c s.heap [] 0 0 (lw_Z below #[Value.ref b] s) (entryFrame m ([Value.ref b] : List Value).toArray 4) := by
  have C1 := C0
  obtain ⟨A, hAd⟩ : ∃ A : Nat → Prop, A = fun q : Nat => s.heap.size ≤ q := ⟨_, rfl⟩
  obtain ⟨hx, hb, hr, hml, hown0, hts0, hX, hbl, hlocks, hgv⟩ := C0
  have hts : ∀ w ∈ (Cond.initialized R_La :: W0), w.before #[Value.ref b] s = true := by
    intro w h
    rcases List.mem_cons.mp h with h | h
    · rw [h]; exact hts0 _ (W0_in _ wd_32)
    · exact hts0 w (W0_in w h)
  have hown : s.vm.findClass R_La = some m.cls := hown0
  have hA : ∀ q : Nat, s.heap.size ≤ q → A q := fun q h => by rw [hAd]; exact h
  have hbA : ¬ A b := by rw [hAd]; exact Nat.not_le.mpr hbl
  obtain ⟨k0, iS0, hKn0⟩ := u_known (C := R_PC) (T := F_PC) (N := 8) (n := 8) hts (fun w h => mw (i_PC w h)) (hts _ (mw wd_39))
  obtain ⟨k1, iS1, hKn1⟩ := u_known (C := R_Ri) (T := F_Ri) (N := 2) (n := 2) hts (fun w h => mw (i_Ri w h)) (hts _ (mw wd_56))
  obtain ⟨k2, iS2, hKn2⟩ := u_known (C := R_Fa) (T := F_Fa) (N := 4) (n := 4) hts (fun w h => mw (i_Fa w h)) (hts _ (mw wd_68))
  obtain ⟨k3, iS3, hKn3⟩ := u_known (C := R_Mo) (T := F_Mo) (N := 12) (n := 12) hts (fun w h => mw (i_Mo w h)) (hts _ (mw wd_232))
  obtain ⟨dC, dI, hKc⟩ : ∃ (dC : Nat → ClassId) (dI : Nat → Nat → Nat), ∀ (k : Nat) (q : vw_C), cls4[k]? = some q → u_Kn s q.1 q.2.1 q.2.2 (dC k) (dI k) := by
    refine ⟨fun k => if k = 0 then k0 else if k = 1 then k1 else if k = 2 then k2 else k3, fun k => if k = 0 then iS0 else if k = 1 then iS1 else if k = 2 then iS2 else iS3, ?_⟩
    intro k q hq
    match k, hq with
    | 0, hq => cases hq; exact hKn0
    | 1, hq => cases hq; exact hKn1
    | 2, hq => cases hq; exact hKn2
    | 3, hq => cases hq; exact hKn3
    | k + 4, hq => simp [cls4] at hq
  obtain ⟨cJ, kJ, jJ, fJ, gJ, dJ⟩ := Cond.arrayClass_spec (hts _ (mw wd_64))
  obtain ⟨cI, kI, jI, fI, gI, dI9⟩ := Cond.arrayClass_spec (hts _ (mw wd_80))
  have hK : va_K (dC, dI) cls4 (ty_2 cJ cI) s := by
    refine ⟨hKc, fun k q h => ?_⟩
    match k, h with
    | 0, h => cases h; exact ⟨fun n z => ⟨fun k h => (by cases h), kJ, gJ, jJ, dJ⟩, fJ⟩
    | 1, h => cases h; exact ⟨fun n z => ⟨fun k h => (by cases h), kI, gI, jI, dI9⟩, fI⟩
    | k + 2, h => simp [ty_2] at h
  have hN : nw_all s := fun w h => va_Nw.of (nw_tab (nw_kinds w h)) (hts0 w (nw_in w h))
  have hS : va_S A s.heap s.heap [] := va_S.rf
  have hP : va_P (dC, dI) cls4 [] s.heap := va_nil
  have hD : va_D A [] := ⟨fun i j p q h => by simp at h, fun k q h => by simp at h⟩
  have hl := lv_entry ([.ref b]) (n := 4) (Nat.le_of_ble_eq_true rfl)
  rw [lg_entry_eq]
  generalize (lg_sl ([.ref b]) ++ List.replicate (4 - (lg_sl ([.ref b])).length) Slot.unset).toArray = ls at hl ⊢
  have hl : lv_has ls 4 [(0, .ref b)] := hl
  refine va_new (ci := 0) (fs := [.int 0, .int 0, .int 0, .null, .null, .null, .null, .null]) (C := R_PC) (T := F_PC) (N := 8) hx hb hts (fun w h => mw (i_PC w h)) t_PC t_PC_ok hown (hts _ (mw wd_38)) (hts _ (mw wd_39)) (hts _ (mw wd_33)) hK hP hD hS hA rfl (fun j hj => by rcases (show j = 0 ∨ j = 1 ∨ j = 2 ∨ j = 3 ∨ j = 4 ∨ j = 5 ∨ j = 6 ∨ j = 7 by omega) with rfl | rfl | rfl | rfl | rfl | rfl | rfl | rfl <;> rfl) (Nat.le_of_ble_eq_true rfl) (Nat.le_of_ble_eq_true rfl) d_La_law_0 (fun q_1 H hP hD hS => ?_)
  have hP : va_P (dC, dI) cls4 [(q_1, .inr (0, [.int 0, .int 0, .int 0, .null, .null, .null, .null, .null]))] H := hP
  have hD : va_D A [(q_1, .inr (0, [.int 0, .int 0, .int 0, .null, .null, .null, .null, .null]))] := hD
  refine lv_dup hx hb d_La_law_3 rfl ?_
  refine lv_aload_n hx hb d_La_law_4 rfl (lv_at hl 0 rfl) ?_
  refine lv_iconst (v := 0) hx hb d_La_law_5 (by decide) ?_
  have hXc := hX.kept (hS.2.1 b hbl hbA)
  refine vp_callSi (va_Run.run (va_runS (As := [.ref b, .int (nI 0)]) (rest := [.ref q_1, .ref q_1]) ⟨hx, hb, hml, hown, hts⟩ (c_La_cell l b L xs 0 hL (by decide)) (va_cwS 2 hts (gd_S wd_228 wd_229 wd_32 wd_230) rfl rfl rfl (by decide +kernel) ⟨Nat.le_of_ble_eq_true rfl, Nat.le_of_ble_eq_true rfl⟩) ⟨fb_x, pre_x hXc⟩ rfl rfl hl.1 rfl (lv_room (Nat.le_of_ble_eq_true rfl)) d_La_law_6 ⟨Nat.le_of_ble_eq_true rfl, Nat.le_of_ble_eq_true rfl⟩)) (fun r_2 er_2 => ?_)
  have er_2 : r_2 = la_cell L xs 0 := er_2
  subst er_2
  refine lv_aload_n hx hb d_La_law_9 rfl (lv_at hl 0 rfl) ?_
  refine lv_iconst (v := 1) hx hb d_La_law_10 (by decide) ?_
  have hXc := hX.kept (hS.2.1 b hbl hbA)
  refine vp_callSi (va_Run.run (va_runS (As := [.ref b, .int (nI 1)]) (rest := [.int (la_cell L xs 0), .ref q_1, .ref q_1]) ⟨hx, hb, hml, hown, hts⟩ (c_La_cell l b L xs 1 hL (by decide)) (va_cwS 2 hts (gd_S wd_228 wd_229 wd_32 wd_230) rfl rfl rfl (by decide +kernel) ⟨Nat.le_of_ble_eq_true rfl, Nat.le_of_ble_eq_true rfl⟩) ⟨fb_x, pre_x hXc⟩ rfl rfl hl.1 rfl (lv_room (Nat.le_of_ble_eq_true rfl)) d_La_law_11 ⟨Nat.le_of_ble_eq_true rfl, Nat.le_of_ble_eq_true rfl⟩)) (fun r_3 er_3 => ?_)
  have er_3 : r_3 = la_cell L xs 1 := er_3
  subst er_3
  have hPc := hP
  have hDc := hD.sub (ws' := [(q_1, .inr (0, [.int 0, .int 0, .int 0, .null, .null, .null, .null, .null]))]) [0] (by decide) rfl
  have hFc := va_free (wc := [(q_1, .inr (0, [.int 0, .int 0, .int 0, .null, .null, .null, .null, .null]))]) hD hS hA [0] rfl
  refine va_callv (va_runI (As := [.int (la_cell L xs 0), .int (la_cell L xs 1)]) (rest := [.ref q_1]) ⟨hx, hb, hml, hown, hts⟩ (c_PC_init l dC dI cJ cI H.size q_1 (la_cell L xs 0) (la_cell L xs 1)) (cwI 2 hts (gd_0 wd_42) rfl rfl rfl (hts _ (mw wd_33)) (hts _ (mw wd_40)) (hts _ (mw wd_41)) rfl (by decide +kernel) ⟨Nat.le_of_ble_eq_true rfl, Nat.le_of_ble_eq_true rfl⟩) ⟨fb_rw, pre_rw hK hN hPc hDc⟩ rfl rfl hl.1 rfl (lv_room (Nat.le_of_ble_eq_true rfl)) d_La_law_14 ⟨Nat.le_of_ble_eq_true rfl, Nat.le_of_ble_eq_true rfl⟩) hS (fun q _ h => hFc q h) hFc (fun u t H locs ht hvm hw hB hz1 hk1 hS => ?_)
  obtain ⟨gi_4, gia_5, ke_6, kea_7, sp_8, spa_9, pi_10, pia_11, fa_12, fas_13, fat_14, faa_15, hP1, hD1, hrel_16⟩ := hB
  rw [ht] at hP1
  obtain ⟨hP, hD⟩ := va_join (wr := []) (w1 := [(q_1, .inr (0, [.int (f_PC_pictureSize (la_cell L xs 0)), .int (f_PC_pictureSize (la_cell L xs 1)), .int 32, .ref gi_4, .ref ke_6, .ref sp_8, .ref pi_10, .ref fa_12])), (gi_4, .inr (1, [.ref gia_5, .int 3])), (gia_5, .inl (cJ, 114, .inr (.inl (fun _ => 0)))), (ke_6, .inr (1, [.ref kea_7, .int 0])), (kea_7, .inl (cJ, 114, .inr (.inl (fun _ => 0)))), (sp_8, .inr (1, [.ref spa_9, .int 0])), (spa_9, .inl (cJ, 114, .inr (.inl (fun _ => 0)))), (pi_10, .inr (1, [.ref pia_11, .int 0])), (pia_11, .inl (cJ, 114, .inr (.inl (fun _ => 0)))), (fa_12, .inr (2, [.ref fas_13, .ref fat_14, .ref faa_15, .int 0])), (fas_13, .inl (cI, 17, .inl (fun _ => 0))), (fat_14, .inl (cI, 17, .inl (fun _ => 0))), (faa_15, .inl (cI, 17, .inl (fun _ => 0)))]) hP hD [0] [] rfl rfl (by decide) (by decide) hk1 hFc hP1 hD1
  have hP : va_P (dC, dI) cls4 [(q_1, .inr (0, [.int (f_PC_pictureSize (la_cell L xs 0)), .int (f_PC_pictureSize (la_cell L xs 1)), .int 32, .ref gi_4, .ref ke_6, .ref sp_8, .ref pi_10, .ref fa_12])), (gi_4, .inr (1, [.ref gia_5, .int 3])), (gia_5, .inl (cJ, 114, .inr (.inl (fun _ => 0)))), (ke_6, .inr (1, [.ref kea_7, .int 0])), (kea_7, .inl (cJ, 114, .inr (.inl (fun _ => 0)))), (sp_8, .inr (1, [.ref spa_9, .int 0])), (spa_9, .inl (cJ, 114, .inr (.inl (fun _ => 0)))), (pi_10, .inr (1, [.ref pia_11, .int 0])), (pia_11, .inl (cJ, 114, .inr (.inl (fun _ => 0)))), (fa_12, .inr (2, [.ref fas_13, .ref fat_14, .ref faa_15, .int 0])), (fas_13, .inl (cI, 17, .inl (fun _ => 0))), (fat_14, .inl (cI, 17, .inl (fun _ => 0))), (faa_15, .inl (cI, 17, .inl (fun _ => 0)))] H := hP
  have hD : va_D A [(q_1, .inr (0, [.int (f_PC_pictureSize (la_cell L xs 0)), .int (f_PC_pictureSize (la_cell L xs 1)), .int 32, .ref gi_4, .ref ke_6, .ref sp_8, .ref pi_10, .ref fa_12])), (gi_4, .inr (1, [.ref gia_5, .int 3])), (gia_5, .inl (cJ, 114, .inr (.inl (fun _ => 0)))), (ke_6, .inr (1, [.ref kea_7, .int 0])), (kea_7, .inl (cJ, 114, .inr (.inl (fun _ => 0)))), (sp_8, .inr (1, [.ref spa_9, .int 0])), (spa_9, .inl (cJ, 114, .inr (.inl (fun _ => 0)))), (pi_10, .inr (1, [.ref pia_11, .int 0])), (pia_11, .inl (cJ, 114, .inr (.inl (fun _ => 0)))), (fa_12, .inr (2, [.ref fas_13, .ref fat_14, .ref faa_15, .int 0])), (fas_13, .inl (cI, 17, .inl (fun _ => 0))), (fat_14, .inl (cI, 17, .inl (fun _ => 0))), (faa_15, .inl (cI, 17, .inl (fun _ => 0)))] := hD
  refine lv_astore_n (lv' := [(1, .ref q_1), (0, .ref b)]) hx hb d_La_law_17 rfl hl (by decide) rfl (fun ls hl => ?_)
  refine va_new (ci := 3) (fs := [.int 0, .int 0, .int 0, .int 0, .null, .null, .int 0, .null, .int 0, .null, .null, .int 0]) (C := R_Mo) (T := F_Mo) (N := 12) hx hb hts (fun w h => mw (i_Mo w h)) t_Mo t_Mo_ok hown (hts _ (mw wd_231)) (hts _ (mw wd_232)) (hts _ (mw wd_37)) hK hP hD hS hA rfl (fun j hj => by rcases (show j = 0 ∨ j = 1 ∨ j = 2 ∨ j = 3 ∨ j = 4 ∨ j = 5 ∨ j = 6 ∨ j = 7 ∨ j = 8 ∨ j = 9 ∨ j = 10 ∨ j = 11 by omega) with rfl | rfl | rfl | rfl | rfl | rfl | rfl | rfl | rfl | rfl | rfl | rfl <;> rfl) (Nat.le_of_ble_eq_true rfl) (Nat.le_of_ble_eq_true rfl) d_La_law_18 (fun q_17 H hP hD hS => ?_)
  have hP : va_P (dC, dI) cls4 [(q_1, .inr (0, [.int (f_PC_pictureSize (la_cell L xs 0)), .int (f_PC_pictureSize (la_cell L xs 1)), .int 32, .ref gi_4, .ref ke_6, .ref sp_8, .ref pi_10, .ref fa_12])), (gi_4, .inr (1, [.ref gia_5, .int 3])), (gia_5, .inl (cJ, 114, .inr (.inl (fun _ => 0)))), (ke_6, .inr (1, [.ref kea_7, .int 0])), (kea_7, .inl (cJ, 114, .inr (.inl (fun _ => 0)))), (sp_8, .inr (1, [.ref spa_9, .int 0])), (spa_9, .inl (cJ, 114, .inr (.inl (fun _ => 0)))), (pi_10, .inr (1, [.ref pia_11, .int 0])), (pia_11, .inl (cJ, 114, .inr (.inl (fun _ => 0)))), (fa_12, .inr (2, [.ref fas_13, .ref fat_14, .ref faa_15, .int 0])), (fas_13, .inl (cI, 17, .inl (fun _ => 0))), (fat_14, .inl (cI, 17, .inl (fun _ => 0))), (faa_15, .inl (cI, 17, .inl (fun _ => 0))), (q_17, .inr (3, [.int 0, .int 0, .int 0, .int 0, .null, .null, .int 0, .null, .int 0, .null, .null, .int 0]))] H := hP
  have hD : va_D A [(q_1, .inr (0, [.int (f_PC_pictureSize (la_cell L xs 0)), .int (f_PC_pictureSize (la_cell L xs 1)), .int 32, .ref gi_4, .ref ke_6, .ref sp_8, .ref pi_10, .ref fa_12])), (gi_4, .inr (1, [.ref gia_5, .int 3])), (gia_5, .inl (cJ, 114, .inr (.inl (fun _ => 0)))), (ke_6, .inr (1, [.ref kea_7, .int 0])), (kea_7, .inl (cJ, 114, .inr (.inl (fun _ => 0)))), (sp_8, .inr (1, [.ref spa_9, .int 0])), (spa_9, .inl (cJ, 114, .inr (.inl (fun _ => 0)))), (pi_10, .inr (1, [.ref pia_11, .int 0])), (pia_11, .inl (cJ, 114, .inr (.inl (fun _ => 0)))), (fa_12, .inr (2, [.ref fas_13, .ref fat_14, .ref faa_15, .int 0])), (fas_13, .inl (cI, 17, .inl (fun _ => 0))), (fat_14, .inl (cI, 17, .inl (fun _ => 0))), (faa_15, .inl (cI, 17, .inl (fun _ => 0))), (q_17, .inr (3, [.int 0, .int 0, .int 0, .int 0, .null, .null, .int 0, .null, .int 0, .null, .null, .int 0]))] := hD
  refine lv_dup hx hb d_La_law_21 rfl ?_
  refine lv_aload_n hx hb d_La_law_22 rfl (lv_at hl 1 rfl) ?_
  refine lv_iconst (v := 0) hx hb d_La_law_23 (by decide) ?_
  have hXc := hX.kept (hS.2.1 b hbl hbA)
  refine vp_callSi (va_Run.run (va_runS (As := [.ref b, .int (nI 0)]) (rest := [.ref q_17, .ref q_17]) ⟨hx, hb, hml, hown, hts⟩ (c_La_cell l b L xs 0 hL (by decide)) (va_cwS 2 hts (gd_S wd_228 wd_229 wd_32 wd_230) rfl rfl rfl (by decide +kernel) ⟨Nat.le_of_ble_eq_true rfl, Nat.le_of_ble_eq_true rfl⟩) ⟨fb_x, pre_x hXc⟩ rfl rfl hl.1 rfl (lv_room (Nat.le_of_ble_eq_true rfl)) d_La_law_24 ⟨Nat.le_of_ble_eq_true rfl, Nat.le_of_ble_eq_true rfl⟩)) (fun r_18 er_18 => ?_)
  have er_18 : r_18 = la_cell L xs 0 := er_18
  subst er_18
  refine lv_aload_n hx hb d_La_law_27 rfl (lv_at hl 1 rfl) ?_
  refine lv_iconst (v := 1) hx hb d_La_law_28 (by decide) ?_
  have hXc := hX.kept (hS.2.1 b hbl hbA)
  refine vp_callSi (va_Run.run (va_runS (As := [.ref b, .int (nI 1)]) (rest := [.int (la_cell L xs 0), .ref q_17, .ref q_17]) ⟨hx, hb, hml, hown, hts⟩ (c_La_cell l b L xs 1 hL (by decide)) (va_cwS 2 hts (gd_S wd_228 wd_229 wd_32 wd_230) rfl rfl rfl (by decide +kernel) ⟨Nat.le_of_ble_eq_true rfl, Nat.le_of_ble_eq_true rfl⟩) ⟨fb_x, pre_x hXc⟩ rfl rfl hl.1 rfl (lv_room (Nat.le_of_ble_eq_true rfl)) d_La_law_29 ⟨Nat.le_of_ble_eq_true rfl, Nat.le_of_ble_eq_true rfl⟩)) (fun r_19 er_19 => ?_)
  have er_19 : r_19 = la_cell L xs 1 := er_19
  subst er_19
  have hPc := hP.sub (ws' := [(q_17, .inr (3, [.int 0, .int 0, .int 0, .int 0, .null, .null, .int 0, .null, .int 0, .null, .null, .int 0]))]) [13] rfl
  have hDc := hD.sub (ws' := [(q_17, .inr (3, [.int 0, .int 0, .int 0, .int 0, .null, .null, .int 0, .null, .int 0, .null, .null, .int 0]))]) [13] (by decide) rfl
  have hFc := va_free (wc := [(q_17, .inr (3, [.int 0, .int 0, .int 0, .int 0, .null, .null, .int 0, .null, .int 0, .null, .null, .int 0]))]) hD hS hA [13] rfl
  refine va_callv (va_runI (As := [.int (la_cell L xs 0), .int (la_cell L xs 1)]) (rest := [.ref q_17]) ⟨hx, hb, hml, hown, hts⟩ (c_Mo_init l dC dI cJ cI H.size q_17 (la_cell L xs 0) (la_cell L xs 1)) (cwI 2 hts (gd_0 wd_235) rfl rfl rfl (hts _ (mw wd_37)) (hts _ (mw wd_233)) (hts _ (mw wd_234)) rfl (by decide +kernel) ⟨Nat.le_of_ble_eq_true rfl, Nat.le_of_ble_eq_true rfl⟩) ⟨fb_rw, pre_rw hK hN hPc hDc⟩ rfl rfl hl.1 rfl (lv_room (Nat.le_of_ble_eq_true rfl)) d_La_law_32 ⟨Nat.le_of_ble_eq_true rfl, Nat.le_of_ble_eq_true rfl⟩) hS (fun q _ h => hFc q h) hFc (fun u t H locs ht hvm hw hB hz1 hk1 hS => ?_)
  obtain ⟨mt_20, mr_21, mx_22, mp_23, mq_24, hP1, hD1, hrel_25⟩ := hB
  rw [ht] at hP1
  obtain ⟨hP, hD⟩ := va_join (wr := [(q_1, .inr (0, [.int (f_PC_pictureSize (la_cell L xs 0)), .int (f_PC_pictureSize (la_cell L xs 1)), .int 32, .ref gi_4, .ref ke_6, .ref sp_8, .ref pi_10, .ref fa_12])), (gi_4, .inr (1, [.ref gia_5, .int 3])), (gia_5, .inl (cJ, 114, .inr (.inl (fun _ => 0)))), (ke_6, .inr (1, [.ref kea_7, .int 0])), (kea_7, .inl (cJ, 114, .inr (.inl (fun _ => 0)))), (sp_8, .inr (1, [.ref spa_9, .int 0])), (spa_9, .inl (cJ, 114, .inr (.inl (fun _ => 0)))), (pi_10, .inr (1, [.ref pia_11, .int 0])), (pia_11, .inl (cJ, 114, .inr (.inl (fun _ => 0)))), (fa_12, .inr (2, [.ref fas_13, .ref fat_14, .ref faa_15, .int 0])), (fas_13, .inl (cI, 17, .inl (fun _ => 0))), (fat_14, .inl (cI, 17, .inl (fun _ => 0))), (faa_15, .inl (cI, 17, .inl (fun _ => 0)))]) (w1 := [(q_17, .inr (3, [.int 0, .int (mo_clamp (la_cell L xs 0)), .int (mo_clamp (la_cell L xs 1)), .int 32, .ref mt_20, .ref mr_21, .int 0, .ref mx_22, .int 0, .ref mp_23, .ref mq_24, .int 0])), (mt_20, .inl (cJ, 18, .inr (.inl (fun _ => 0)))), (mr_21, .inl (cJ, 120, .inr (.inl (fun _ => 0)))), (mx_22, .inl (cJ, 120, .inr (.inl (fun _ => 0)))), (mp_23, .inl (cJ, 324, .inr (.inl (fun _ => 0)))), (mq_24, .inl (cJ, 18, .inr (.inl (fun _ => 0))))]) hP hD [13] [0, 1, 2, 3, 4, 5, 6, 7, 8, 9, 10, 11, 12] rfl rfl (by decide) (by decide) hk1 hFc hP1 hD1
  have hP : va_P (dC, dI) cls4 [(q_1, .inr (0, [.int (f_PC_pictureSize (la_cell L xs 0)), .int (f_PC_pictureSize (la_cell L xs 1)), .int 32, .ref gi_4, .ref ke_6, .ref sp_8, .ref pi_10, .ref fa_12])), (gi_4, .inr (1, [.ref gia_5, .int 3])), (gia_5, .inl (cJ, 114, .inr (.inl (fun _ => 0)))), (ke_6, .inr (1, [.ref kea_7, .int 0])), (kea_7, .inl (cJ, 114, .inr (.inl (fun _ => 0)))), (sp_8, .inr (1, [.ref spa_9, .int 0])), (spa_9, .inl (cJ, 114, .inr (.inl (fun _ => 0)))), (pi_10, .inr (1, [.ref pia_11, .int 0])), (pia_11, .inl (cJ, 114, .inr (.inl (fun _ => 0)))), (fa_12, .inr (2, [.ref fas_13, .ref fat_14, .ref faa_15, .int 0])), (fas_13, .inl (cI, 17, .inl (fun _ => 0))), (fat_14, .inl (cI, 17, .inl (fun _ => 0))), (faa_15, .inl (cI, 17, .inl (fun _ => 0))), (q_17, .inr (3, [.int 0, .int (mo_clamp (la_cell L xs 0)), .int (mo_clamp (la_cell L xs 1)), .int 32, .ref mt_20, .ref mr_21, .int 0, .ref mx_22, .int 0, .ref mp_23, .ref mq_24, .int 0])), (mt_20, .inl (cJ, 18, .inr (.inl (fun _ => 0)))), (mr_21, .inl (cJ, 120, .inr (.inl (fun _ => 0)))), (mx_22, .inl (cJ, 120, .inr (.inl (fun _ => 0)))), (mp_23, .inl (cJ, 324, .inr (.inl (fun _ => 0)))), (mq_24, .inl (cJ, 18, .inr (.inl (fun _ => 0))))] H := hP
  have hD : va_D A [(q_1, .inr (0, [.int (f_PC_pictureSize (la_cell L xs 0)), .int (f_PC_pictureSize (la_cell L xs 1)), .int 32, .ref gi_4, .ref ke_6, .ref sp_8, .ref pi_10, .ref fa_12])), (gi_4, .inr (1, [.ref gia_5, .int 3])), (gia_5, .inl (cJ, 114, .inr (.inl (fun _ => 0)))), (ke_6, .inr (1, [.ref kea_7, .int 0])), (kea_7, .inl (cJ, 114, .inr (.inl (fun _ => 0)))), (sp_8, .inr (1, [.ref spa_9, .int 0])), (spa_9, .inl (cJ, 114, .inr (.inl (fun _ => 0)))), (pi_10, .inr (1, [.ref pia_11, .int 0])), (pia_11, .inl (cJ, 114, .inr (.inl (fun _ => 0)))), (fa_12, .inr (2, [.ref fas_13, .ref fat_14, .ref faa_15, .int 0])), (fas_13, .inl (cI, 17, .inl (fun _ => 0))), (fat_14, .inl (cI, 17, .inl (fun _ => 0))), (faa_15, .inl (cI, 17, .inl (fun _ => 0))), (q_17, .inr (3, [.int 0, .int (mo_clamp (la_cell L xs 0)), .int (mo_clamp (la_cell L xs 1)), .int 32, .ref mt_20, .ref mr_21, .int 0, .ref mx_22, .int 0, .ref mp_23, .ref mq_24, .int 0])), (mt_20, .inl (cJ, 18, .inr (.inl (fun _ => 0)))), (mr_21, .inl (cJ, 120, .inr (.inl (fun _ => 0)))), (mx_22, .inl (cJ, 120, .inr (.inl (fun _ => 0)))), (mp_23, .inl (cJ, 324, .inr (.inl (fun _ => 0)))), (mq_24, .inl (cJ, 18, .inr (.inl (fun _ => 0))))] := hD
  refine lv_astore_n (lv' := [(2, .ref q_17), (1, .ref q_1), (0, .ref b)]) hx hb d_La_law_35 rfl hl (by decide) rfl (fun ls hl => ?_)
  refine lv_iconst (v := 2) hx hb d_La_law_36 (by decide) ?_
  refine lv_istore_n (lv' := [(3, .int 2), (2, .ref q_17), (1, .ref q_1), (0, .ref b)]) hx hb d_La_law_37 rfl hl (by decide) rfl (fun ls hl => ?_)
  obtain ⟨wn, hw8, hw48, ewn⟩ := la_clamp (la_cell L xs 0)
  obtain ⟨hn, hh8, hh48, ehn⟩ := la_clamp (la_cell L xs 1)
  rw [(in_clamp (la_cell L xs 0)).1, (in_clamp (la_cell L xs 1)).1, ewn, ehn] at hP hD
  have hfit : pu_fit 32 (nI wn) (nI hn) := by unfold pu_fit; rw [nI_toInt (by omega), nI_toInt (by omega), show (32 : Int32).toInt = 32 by decide]; omega
  exact law_loop hL C1 hAd hK hN ⟨hw8, hw48⟩ ⟨hh8, hh48⟩ q_1 gi_4 gia_5 pi_10 pia_11 fa_12 fas_13 fat_14 faa_15 q_17 mt_20 mp_23 mq_24 (L + 5) 2 _ _ _ _ _ _ _ _ _ _ _ _ _ _ _ _ _ _ _ _ _ _ _ _ _ _ _ (by omega) (by omega) hfit la_given0 (la_cl0 (S := fun _ => 0) (T := fun _ => 0) (P := fun _ => 0)) la_mo0 _ _ hP hD hS ls (lv_sub hl [3, 2, 1, 0] rfl)
