set_option maxHeartbeats 16000000 in
set_option maxRecDepth 100000 in
theorem law_loop {p : Program} {l : Launch} {e : Env} {s : State} {m : MethodId} {below : List Frame} {meth : Method} {c : Code} {dC : Nat → ClassId} {dI : Nat → Nat → Nat} {cJ cI : ClassId} {b L : Nat} {xs : Nat → Int32} {A : Nat → Prop} (hL : L ≤ 2562) (C0 : lw_At p s m meth c b L xs) (hAd : A = fun q : Nat => s.heap.size ≤ q) (hK : va_K (dC, dI) cls4 (ty_2 cJ cI) s) (hN : nw_all s) {wn hn : Nat} (hwn : 8 ≤ wn ∧ wn ≤ 48) (hhn : 8 ≤ hn ∧ hn ≤ 48) (ob gi gia pi pia fa fas fat faa mo mt mp mq : Nat) :
    ∀ (n i : Nat) (fo : Int32) (gif : Nat → Int64) (ke : Nat) (kea : Nat) (ken : Int32) (kef : Nat → Int64) (sp : Nat) (spa : Nat) (spn : Int32) (spf : Nat → Int64) (pif : Nat → Int64) (faS : Nat → Int32) (faT : Nat → Int32) (faA : Nat → Int32) (mr : Nat) (ma : Int32) (mx : Nat) (mn : Int32) (mrf : Nat → Int64) (mxf : Nat → Int64) (mpf : Nat → Int64) (mqf : Nat → Int64) (ct : Nat) (pn : Nat) (S : Nat → Nat) (T : Nat → Nat) (P : Nat → Int64), (i ≤ L + 4) → (L + 5 ≤ i + n) → (pu_fit fo (nI wn) (nI hn)) → (pu_given gif) → (cl_rel (nI pn) pif (nI ct) faS faT faA ct pn S T P) → (mo_rel mpf mqf ct pn S T P) → ∀ (H : Heap) (locs : List Loc), va_P (dC, dI) cls4 [(ob, .inr (0, [.int (nI wn), .int (nI hn), .int fo, .ref gi, .ref ke, .ref sp, .ref pi, .ref fa])), (gi, .inr (1, [.ref gia, .int 3])), (gia, .inl (cJ, 114, .inr (.inl gif))), (ke, .inr (1, [.ref kea, .int ken])), (kea, .inl (cJ, 114, .inr (.inl kef))), (sp, .inr (1, [.ref spa, .int spn])), (spa, .inl (cJ, 114, .inr (.inl spf))), (pi, .inr (1, [.ref pia, .int (nI pn)])), (pia, .inl (cJ, 114, .inr (.inl pif))), (fa, .inr (2, [.ref fas, .ref fat, .ref faa, .int (nI ct)])), (fas, .inl (cI, 17, .inl faS)), (fat, .inl (cI, 17, .inl faT)), (faa, .inl (cI, 17, .inl faA)), (mo, .inr (3, [.int 0, .int (nI wn), .int (nI hn), .int fo, .ref mt, .ref mr, .int ma, .ref mx, .int mn, .ref mp, .ref mq, .int (nI ct)])), (mt, .inl (cJ, 18, .inr (.inl gif))), (mr, .inl (cJ, 120, .inr (.inl mrf))), (mx, .inl (cJ, 120, .inr (.inl mxf))), (mp, .inl (cJ, 324, .inr (.inl mpf))), (mq, .inl (cJ, 18, .inr (.inl mqf)))] H → va_D A [(ob, .inr (0, [.int (nI wn), .int (nI hn), .int fo, .ref gi, .ref ke, .ref sp, .ref pi, .ref fa])), (gi, .inr (1, [.ref gia, .int 3])), (gia, .inl (cJ, 114, .inr (.inl gif))), (ke, .inr (1, [.ref kea, .int ken])), (kea, .inl (cJ, 114, .inr (.inl kef))), (sp, .inr (1, [.ref spa, .int spn])), (spa, .inl (cJ, 114, .inr (.inl spf))), (pi, .inr (1, [.ref pia, .int (nI pn)])), (pia, .inl (cJ, 114, .inr (.inl pif))), (fa, .inr (2, [.ref fas, .ref fat, .ref faa, .int (nI ct)])), (fas, .inl (cI, 17, .inl faS)), (fat, .inl (cI, 17, .inl faT)), (faa, .inl (cI, 17, .inl faA)), (mo, .inr (3, [.int 0, .int (nI wn), .int (nI hn), .int fo, .ref mt, .ref mr, .int ma, .ref mx, .int mn, .ref mp, .ref mq, .int (nI ct)])), (mt, .inl (cJ, 18, .inr (.inl gif))), (mr, .inl (cJ, 120, .inr (.inl mrf))), (mx, .inl (cJ, 120, .inr (.inl mxf))), (mp, .inl (cJ, 324, .inr (.inl mpf))), (mq, .inl (cJ, 18, .inr (.inl mqf)))] → va_S A s.heap H locs → ∀ (ls : Array Slot), lv_has ls 4 [(0, .ref b), (1, .ref ob), (2, .ref mo), (3, .int (nI i))] → W p l e room_1 s m #[Value.ref b] below meth c H locs 19 1139 (lw_Z below #[Value.ref b] s) (F0 m 38 ls []) := by
  obtain ⟨hx, hb, hr, hml, hown0, hts0, hX, hbl, hlocks, hgv⟩ := C0
  have hts : ∀ w ∈ (Cond.initialized R_La :: W0), w.before #[Value.ref b] s = true := by
    intro w h
    rcases List.mem_cons.mp h with h | h
    · rw [h]; exact hts0 _ (W0_in _ wd_32)
    · exact hts0 w (W0_in w h)
  have hown : s.vm.findClass R_La = some m.cls := hown0
  have hA : ∀ q : Nat, s.heap.size ≤ q → A q := fun q h => by rw [hAd]; exact h
  have hbA : ¬ A b := by rw [hAd]; exact Nat.not_le.mpr hbl
  have hwh : mo_wh (nI wn) (nI hn) := by unfold mo_wh; rw [nI_toInt (by omega), nI_toInt (by omega)]; omega
  intro n
  induction n with
  | zero =>
    intro i fo gif ke kea ken kef sp spa spn spf pif faS faT faA mr ma mx mn mrf mxf mpf mqf ct pn S T P h1 h2
    exact absurd h2 (by omega)
  | succ n ih =>
    intro i fo gif ke kea ken kef sp spa spn spf pif faS faT faA mr ma mx mn mrf mxf mpf mqf ct pn S T P hi4 hm hfit hG hcl hmo H locs hP hD hS ls hl
    have hct17 : ct ≤ 17 := hmo.1.1
    refine lv_iload_n hx hb d_La_law_38 rfl (lv_at hl 3 rfl) ?_
    refine lv_aload_n hx hb d_La_law_39 rfl (lv_at hl 0 rfl) ?_
    refine va_slen hx hb hX hbl hbA hS d_La_law_40 ?_
    refine lv_iconst (v := 5) hx hb d_La_law_41 (by decide) ?_
    refine lv_isub hx hb d_La_law_42 ?_
    refine lv_icmp_gt (tgt := 547) hx hb d_La_law_43 (by decide) (fun c_1 => ?_) (fun c_1 => ?_)
    · have c_1 : ((nI L) - 5) < (nI i) := c_1
      refine lv_iconst (v := 1) hx hb d_La_law_547 (by decide) ?_
      refine va_forget (fun q hq => by have h9 := hS.2.2 q hq; rw [hAd] at h9; exact h9) ?_
      exact lw_ret hx hb hr hlocks d_La_law_548
    · have c_1 : ¬ (((nI L) - 5) < (nI i)) := c_1
      have hi5 : i + 5 ≤ L := by rw [la_le hL (by omega)] at c_1; omega
      refine lv_aload_n hx hb d_La_law_46 rfl (lv_at hl 0 rfl) ?_
      refine lv_iload_n hx hb d_La_law_47 rfl (lv_at hl 3 rfl) ?_
      refine va_sld hx hb hX hbl hbA hS (vp_in_nI (n := i) (by omega) (by omega)) d_La_law_48 ?_
      refine lv_topi (fun y_2 ey_2 => ?_)
      rw [nI_clamp (by omega)] at ey_2
      subst ey_2
      refine lv_bipush (v := 15) hx hb d_La_law_49 (by decide) ?_
      refine lv_iand hx hb d_La_law_51 ?_
      obtain ⟨op, hop, eop⟩ := pk_andE (xs i) (m := 15) 4 (by decide)
      rw [eop]
      have hcs : op = 0 ∨ op = 1 ∨ op = 2 ∨ op = 3 ∨ op = 4 ∨ op = 5 ∨ op = 6 ∨ op = 7 ∨ op = 8 ∨ op = 9 ∨ op = 10 ∨ 11 ≤ op := by omega
      rcases hcs with rfl | rfl | rfl | rfl | rfl | rfl | rfl | rfl | rfl | rfl | rfl | hge
      · refine lv_tableIn (off := 60) (tgt := 112) hx hb d_La_law_52 (by decide) (by decide) (by decide) (by decide) ?_
        refine lv_aload_n hx hb d_La_law_112 rfl (lv_at hl 1 rfl) ?_
        refine lv_aload_n hx hb d_La_law_113 rfl (lv_at hl 0 rfl) ?_
        refine lv_iload_n hx hb d_La_law_114 rfl (lv_at hl 3 rfl) ?_
        refine lv_iconst (v := 1) hx hb d_La_law_115 (by decide) ?_
        refine lv_iadd hx hb d_La_law_116 ?_
        refine lv_topi (fun y_3 ey_3 => ?_)
        have ey_3 : y_3 = nI (i + 1) := by rw [ey_3]; first | rfl | (simp only [nk_set_0, nk_set_1, nk_set_2, nk_set_3, nk_set_4, nk_set_5, nk_set_6, nk_set_7, nk_set_12, nk_set_13, nk_set_18, pk_mul, nI_add]; done) | (simp only [nk_set_0, nk_set_1, nk_set_2, nk_set_3, nk_set_4, nk_set_5, nk_set_6, nk_set_7, nk_set_12, nk_set_13, nk_set_18, pk_mul, nI_add]; exact congrArg nI (by omega))
        subst ey_3
        refine va_sld hx hb hX hbl hbA hS (vp_in_nI (n := i + 1) (by omega) (by omega)) d_La_law_117 ?_
        refine lv_topi (fun y_4 ey_4 => ?_)
        rw [nI_clamp (by omega)] at ey_4
        subst ey_4
        have hPc := hP.sub (ws' := [(ob, .inr (0, [.int (nI wn), .int (nI hn), .int fo, .ref gi, .ref ke, .ref sp, .ref pi, .ref fa])), (gi, .inr (1, [.ref gia, .int 3])), (gia, .inl (cJ, 114, .inr (.inl gif))), (ke, .inr (1, [.ref kea, .int ken])), (kea, .inl (cJ, 114, .inr (.inl kef))), (sp, .inr (1, [.ref spa, .int spn])), (spa, .inl (cJ, 114, .inr (.inl spf))), (pi, .inr (1, [.ref pia, .int (nI pn)])), (pia, .inl (cJ, 114, .inr (.inl pif))), (fa, .inr (2, [.ref fas, .ref fat, .ref faa, .int (nI ct)])), (fas, .inl (cI, 17, .inl faS)), (fat, .inl (cI, 17, .inl faT)), (faa, .inl (cI, 17, .inl faA))]) [0, 1, 2, 3, 4, 5, 6, 7, 8, 9, 10, 11, 12] rfl
        have hDc := hD.sub (ws' := [(ob, .inr (0, [.int (nI wn), .int (nI hn), .int fo, .ref gi, .ref ke, .ref sp, .ref pi, .ref fa])), (gi, .inr (1, [.ref gia, .int 3])), (gia, .inl (cJ, 114, .inr (.inl gif))), (ke, .inr (1, [.ref kea, .int ken])), (kea, .inl (cJ, 114, .inr (.inl kef))), (sp, .inr (1, [.ref spa, .int spn])), (spa, .inl (cJ, 114, .inr (.inl spf))), (pi, .inr (1, [.ref pia, .int (nI pn)])), (pia, .inl (cJ, 114, .inr (.inl pif))), (fa, .inr (2, [.ref fas, .ref fat, .ref faa, .int (nI ct)])), (fas, .inl (cI, 17, .inl faS)), (fat, .inl (cI, 17, .inl faT)), (faa, .inl (cI, 17, .inl faA))]) [0, 1, 2, 3, 4, 5, 6, 7, 8, 9, 10, 11, 12] (by decide) rfl
        have hFc := va_free (wc := [(ob, .inr (0, [.int (nI wn), .int (nI hn), .int fo, .ref gi, .ref ke, .ref sp, .ref pi, .ref fa])), (gi, .inr (1, [.ref gia, .int 3])), (gia, .inl (cJ, 114, .inr (.inl gif))), (ke, .inr (1, [.ref kea, .int ken])), (kea, .inl (cJ, 114, .inr (.inl kef))), (sp, .inr (1, [.ref spa, .int spn])), (spa, .inl (cJ, 114, .inr (.inl spf))), (pi, .inr (1, [.ref pia, .int (nI pn)])), (pia, .inl (cJ, 114, .inr (.inl pif))), (fa, .inr (2, [.ref fas, .ref fat, .ref faa, .int (nI ct)])), (fas, .inl (cI, 17, .inl faS)), (fat, .inl (cI, 17, .inl faT)), (faa, .inl (cI, 17, .inl faA))]) hD hS hA [0, 1, 2, 3, 4, 5, 6, 7, 8, 9, 10, 11, 12] rfl
        refine va_calli (va_runV (As := [.int (xs (i + 1))]) (rest := []) ⟨hx, hb, hml, hown, hts⟩ (c_PC_focus l dC dI cJ cI H.size ob (nI wn) (nI hn) fo gi gia 3 gif ke kea ken kef sp spa spn spf pi pia (nI pn) pif fa fas fat faa (nI ct) faS faT faA (xs (i + 1))) (cwV 1 hts (gd_V wd_97 wd_98 wd_99 wd_33 wd_100) rfl rfl rfl (by decide +kernel) ⟨Nat.le_of_ble_eq_true rfl, Nat.le_of_ble_eq_true rfl⟩) ⟨fb_rw, va_recv hK hPc (ci := 0) (q0 := 0) rfl rfl, pre_rw hK hN hPc hDc⟩ rfl rfl hl.1 rfl (lv_room (Nat.le_of_ble_eq_true rfl)) d_La_law_118 ⟨Nat.le_of_ble_eq_true rfl, Nat.le_of_ble_eq_true rfl⟩) hS (fun q _ h => hFc q h) hFc (fun r_5 u t H locs ht hvm hw hB hz1 hk1 hS => ?_)
        obtain ⟨hP1, hD1⟩ := hB
        rw [ht] at hP1
        obtain ⟨hP, hD⟩ := va_join (wr := [(mo, .inr (3, [.int 0, .int (nI wn), .int (nI hn), .int fo, .ref mt, .ref mr, .int ma, .ref mx, .int mn, .ref mp, .ref mq, .int (nI ct)])), (mt, .inl (cJ, 18, .inr (.inl gif))), (mr, .inl (cJ, 120, .inr (.inl mrf))), (mx, .inl (cJ, 120, .inr (.inl mxf))), (mp, .inl (cJ, 324, .inr (.inl mpf))), (mq, .inl (cJ, 18, .inr (.inl mqf)))]) (w1 := [(ob, .inr (0, [.int (nI wn), .int (nI hn), .int (f_PC_focus_0_2 fo (xs (i + 1))), .ref gi, .ref ke, .ref sp, .ref pi, .ref fa])), (gi, .inr (1, [.ref gia, .int 3])), (gia, .inl (cJ, 114, .inr (.inl gif))), (ke, .inr (1, [.ref kea, .int ken])), (kea, .inl (cJ, 114, .inr (.inl kef))), (sp, .inr (1, [.ref spa, .int spn])), (spa, .inl (cJ, 114, .inr (.inl spf))), (pi, .inr (1, [.ref pia, .int (nI pn)])), (pia, .inl (cJ, 114, .inr (.inl pif))), (fa, .inr (2, [.ref fas, .ref fat, .ref faa, .int (nI ct)])), (fas, .inl (cI, 17, .inl faS)), (fat, .inl (cI, 17, .inl faT)), (faa, .inl (cI, 17, .inl faA))]) hP hD [0, 1, 2, 3, 4, 5, 6, 7, 8, 9, 10, 11, 12] [13, 14, 15, 16, 17, 18] rfl rfl (by decide) (by decide) hk1 hFc hP1 hD1
        have er_5 := hw
        have er_5 : r_5 = f_PC_focus_r (xs (i + 1)) := er_5
        have hP : va_P (dC, dI) cls4 [(ob, .inr (0, [.int (nI wn), .int (nI hn), .int (f_PC_focus_0_2 fo (xs (i + 1))), .ref gi, .ref ke, .ref sp, .ref pi, .ref fa])), (gi, .inr (1, [.ref gia, .int 3])), (gia, .inl (cJ, 114, .inr (.inl gif))), (ke, .inr (1, [.ref kea, .int ken])), (kea, .inl (cJ, 114, .inr (.inl kef))), (sp, .inr (1, [.ref spa, .int spn])), (spa, .inl (cJ, 114, .inr (.inl spf))), (pi, .inr (1, [.ref pia, .int (nI pn)])), (pia, .inl (cJ, 114, .inr (.inl pif))), (fa, .inr (2, [.ref fas, .ref fat, .ref faa, .int (nI ct)])), (fas, .inl (cI, 17, .inl faS)), (fat, .inl (cI, 17, .inl faT)), (faa, .inl (cI, 17, .inl faA)), (mo, .inr (3, [.int 0, .int (nI wn), .int (nI hn), .int fo, .ref mt, .ref mr, .int ma, .ref mx, .int mn, .ref mp, .ref mq, .int (nI ct)])), (mt, .inl (cJ, 18, .inr (.inl gif))), (mr, .inl (cJ, 120, .inr (.inl mrf))), (mx, .inl (cJ, 120, .inr (.inl mxf))), (mp, .inl (cJ, 324, .inr (.inl mpf))), (mq, .inl (cJ, 18, .inr (.inl mqf)))] H := hP.sub [6, 7, 8, 9, 10, 11, 12, 13, 14, 15, 16, 17, 18, 0, 1, 2, 3, 4, 5] rfl
        have hD : va_D A [(ob, .inr (0, [.int (nI wn), .int (nI hn), .int (f_PC_focus_0_2 fo (xs (i + 1))), .ref gi, .ref ke, .ref sp, .ref pi, .ref fa])), (gi, .inr (1, [.ref gia, .int 3])), (gia, .inl (cJ, 114, .inr (.inl gif))), (ke, .inr (1, [.ref kea, .int ken])), (kea, .inl (cJ, 114, .inr (.inl kef))), (sp, .inr (1, [.ref spa, .int spn])), (spa, .inl (cJ, 114, .inr (.inl spf))), (pi, .inr (1, [.ref pia, .int (nI pn)])), (pia, .inl (cJ, 114, .inr (.inl pif))), (fa, .inr (2, [.ref fas, .ref fat, .ref faa, .int (nI ct)])), (fas, .inl (cI, 17, .inl faS)), (fat, .inl (cI, 17, .inl faT)), (faa, .inl (cI, 17, .inl faA)), (mo, .inr (3, [.int 0, .int (nI wn), .int (nI hn), .int fo, .ref mt, .ref mr, .int ma, .ref mx, .int mn, .ref mp, .ref mq, .int (nI ct)])), (mt, .inl (cJ, 18, .inr (.inl gif))), (mr, .inl (cJ, 120, .inr (.inl mrf))), (mx, .inl (cJ, 120, .inr (.inl mxf))), (mp, .inl (cJ, 324, .inr (.inl mpf))), (mq, .inl (cJ, 18, .inr (.inl mqf)))] := hD.sub [6, 7, 8, 9, 10, 11, 12, 13, 14, 15, 16, 17, 18, 0, 1, 2, 3, 4, 5] (by decide) rfl
        refine lv_aload_n hx hb d_La_law_121 rfl (lv_at hl 2 rfl) ?_
        refine lv_aload_n hx hb d_La_law_122 rfl (lv_at hl 0 rfl) ?_
        refine lv_iload_n hx hb d_La_law_123 rfl (lv_at hl 3 rfl) ?_
        refine lv_iconst (v := 1) hx hb d_La_law_124 (by decide) ?_
        refine lv_iadd hx hb d_La_law_125 ?_
        refine lv_topi (fun y_6 ey_6 => ?_)
        have ey_6 : y_6 = nI (i + 1) := by rw [ey_6]; first | rfl | (simp only [nk_set_0, nk_set_1, nk_set_2, nk_set_3, nk_set_4, nk_set_5, nk_set_6, nk_set_7, nk_set_12, nk_set_13, nk_set_18, pk_mul, nI_add]; done) | (simp only [nk_set_0, nk_set_1, nk_set_2, nk_set_3, nk_set_4, nk_set_5, nk_set_6, nk_set_7, nk_set_12, nk_set_13, nk_set_18, pk_mul, nI_add]; exact congrArg nI (by omega))
        subst ey_6
        refine va_sld hx hb hX hbl hbA hS (vp_in_nI (n := i + 1) (by omega) (by omega)) d_La_law_126 ?_
        refine lv_topi (fun y_7 ey_7 => ?_)
        rw [nI_clamp (by omega)] at ey_7
        subst ey_7
        have hPc := hP.sub (ws' := [(mo, .inr (3, [.int 0, .int (nI wn), .int (nI hn), .int fo, .ref mt, .ref mr, .int ma, .ref mx, .int mn, .ref mp, .ref mq, .int (nI ct)])), (mt, .inl (cJ, 18, .inr (.inl gif))), (mr, .inl (cJ, 120, .inr (.inl mrf))), (mx, .inl (cJ, 120, .inr (.inl mxf))), (mp, .inl (cJ, 324, .inr (.inl mpf))), (mq, .inl (cJ, 18, .inr (.inl mqf)))]) [13, 14, 15, 16, 17, 18] rfl
        have hDc := hD.sub (ws' := [(mo, .inr (3, [.int 0, .int (nI wn), .int (nI hn), .int fo, .ref mt, .ref mr, .int ma, .ref mx, .int mn, .ref mp, .ref mq, .int (nI ct)])), (mt, .inl (cJ, 18, .inr (.inl gif))), (mr, .inl (cJ, 120, .inr (.inl mrf))), (mx, .inl (cJ, 120, .inr (.inl mxf))), (mp, .inl (cJ, 324, .inr (.inl mpf))), (mq, .inl (cJ, 18, .inr (.inl mqf)))]) [13, 14, 15, 16, 17, 18] (by decide) rfl
        have hFc := va_free (wc := [(mo, .inr (3, [.int 0, .int (nI wn), .int (nI hn), .int fo, .ref mt, .ref mr, .int ma, .ref mx, .int mn, .ref mp, .ref mq, .int (nI ct)])), (mt, .inl (cJ, 18, .inr (.inl gif))), (mr, .inl (cJ, 120, .inr (.inl mrf))), (mx, .inl (cJ, 120, .inr (.inl mxf))), (mp, .inl (cJ, 324, .inr (.inl mpf))), (mq, .inl (cJ, 18, .inr (.inl mqf)))]) hD hS hA [13, 14, 15, 16, 17, 18] rfl
        refine va_calli (va_runV (As := [.int (xs (i + 1))]) (rest := [.int r_5]) ⟨hx, hb, hml, hown, hts⟩ (c_Mo_focus l dC dI cJ cI H.size mo (nI wn) (nI hn) fo mt mr ma mx mn mp mq ct gif mrf mxf mpf mqf (xs (i + 1))) (cwV 1 hts (gd_V wd_261 wd_262 wd_263 wd_37 wd_264) rfl rfl rfl (by decide +kernel) ⟨Nat.le_of_ble_eq_true rfl, Nat.le_of_ble_eq_true rfl⟩) ⟨fb_rw, va_recv hK hPc (ci := 3) (q0 := 0) rfl rfl, pre_rw hK hN hPc hDc⟩ rfl rfl hl.1 rfl (lv_room (Nat.le_of_ble_eq_true rfl)) d_La_law_127 ⟨Nat.le_of_ble_eq_true rfl, Nat.le_of_ble_eq_true rfl⟩) hS (fun q _ h => hFc q h) hFc (fun r_8 u t H locs ht hvm hw hB hz1 hk1 hS => ?_)
        obtain ⟨hP1, hD1⟩ := hB
        rw [ht] at hP1
        obtain ⟨hP, hD⟩ := va_join (wr := [(ob, .inr (0, [.int (nI wn), .int (nI hn), .int (f_PC_focus_0_2 fo (xs (i + 1))), .ref gi, .ref ke, .ref sp, .ref pi, .ref fa])), (gi, .inr (1, [.ref gia, .int 3])), (gia, .inl (cJ, 114, .inr (.inl gif))), (ke, .inr (1, [.ref kea, .int ken])), (kea, .inl (cJ, 114, .inr (.inl kef))), (sp, .inr (1, [.ref spa, .int spn])), (spa, .inl (cJ, 114, .inr (.inl spf))), (pi, .inr (1, [.ref pia, .int (nI pn)])), (pia, .inl (cJ, 114, .inr (.inl pif))), (fa, .inr (2, [.ref fas, .ref fat, .ref faa, .int (nI ct)])), (fas, .inl (cI, 17, .inl faS)), (fat, .inl (cI, 17, .inl faT)), (faa, .inl (cI, 17, .inl faA))]) (w1 := [(mo, .inr (3, [.int 0, .int (nI wn), .int (nI hn), .int (f_Mo_focus_0_3 fo (xs (i + 1))), .ref mt, .ref mr, .int ma, .ref mx, .int mn, .ref mp, .ref mq, .int (nI ct)])), (mt, .inl (cJ, 18, .inr (.inl gif))), (mr, .inl (cJ, 120, .inr (.inl mrf))), (mx, .inl (cJ, 120, .inr (.inl mxf))), (mp, .inl (cJ, 324, .inr (.inl mpf))), (mq, .inl (cJ, 18, .inr (.inl mqf)))]) hP hD [13, 14, 15, 16, 17, 18] [0, 1, 2, 3, 4, 5, 6, 7, 8, 9, 10, 11, 12] rfl rfl (by decide) (by decide) hk1 hFc hP1 hD1
        have er_8 := hw
        have er_8 : r_8 = f_Mo_focus_r (xs (i + 1)) := er_8
        have hP : va_P (dC, dI) cls4 [(ob, .inr (0, [.int (nI wn), .int (nI hn), .int (f_PC_focus_0_2 fo (xs (i + 1))), .ref gi, .ref ke, .ref sp, .ref pi, .ref fa])), (gi, .inr (1, [.ref gia, .int 3])), (gia, .inl (cJ, 114, .inr (.inl gif))), (ke, .inr (1, [.ref kea, .int ken])), (kea, .inl (cJ, 114, .inr (.inl kef))), (sp, .inr (1, [.ref spa, .int spn])), (spa, .inl (cJ, 114, .inr (.inl spf))), (pi, .inr (1, [.ref pia, .int (nI pn)])), (pia, .inl (cJ, 114, .inr (.inl pif))), (fa, .inr (2, [.ref fas, .ref fat, .ref faa, .int (nI ct)])), (fas, .inl (cI, 17, .inl faS)), (fat, .inl (cI, 17, .inl faT)), (faa, .inl (cI, 17, .inl faA)), (mo, .inr (3, [.int 0, .int (nI wn), .int (nI hn), .int (f_Mo_focus_0_3 fo (xs (i + 1))), .ref mt, .ref mr, .int ma, .ref mx, .int mn, .ref mp, .ref mq, .int (nI ct)])), (mt, .inl (cJ, 18, .inr (.inl gif))), (mr, .inl (cJ, 120, .inr (.inl mrf))), (mx, .inl (cJ, 120, .inr (.inl mxf))), (mp, .inl (cJ, 324, .inr (.inl mpf))), (mq, .inl (cJ, 18, .inr (.inl mqf)))] H := hP
        have hD : va_D A [(ob, .inr (0, [.int (nI wn), .int (nI hn), .int (f_PC_focus_0_2 fo (xs (i + 1))), .ref gi, .ref ke, .ref sp, .ref pi, .ref fa])), (gi, .inr (1, [.ref gia, .int 3])), (gia, .inl (cJ, 114, .inr (.inl gif))), (ke, .inr (1, [.ref kea, .int ken])), (kea, .inl (cJ, 114, .inr (.inl kef))), (sp, .inr (1, [.ref spa, .int spn])), (spa, .inl (cJ, 114, .inr (.inl spf))), (pi, .inr (1, [.ref pia, .int (nI pn)])), (pia, .inl (cJ, 114, .inr (.inl pif))), (fa, .inr (2, [.ref fas, .ref fat, .ref faa, .int (nI ct)])), (fas, .inl (cI, 17, .inl faS)), (fat, .inl (cI, 17, .inl faT)), (faa, .inl (cI, 17, .inl faA)), (mo, .inr (3, [.int 0, .int (nI wn), .int (nI hn), .int (f_Mo_focus_0_3 fo (xs (i + 1))), .ref mt, .ref mr, .int ma, .ref mx, .int mn, .ref mp, .ref mq, .int (nI ct)])), (mt, .inl (cJ, 18, .inr (.inl gif))), (mr, .inl (cJ, 120, .inr (.inl mrf))), (mx, .inl (cJ, 120, .inr (.inl mxf))), (mp, .inl (cJ, 324, .inr (.inl mpf))), (mq, .inl (cJ, 18, .inr (.inl mqf)))] := hD
        refine lv_icmp_eq (tgt := 541) hx hb d_La_law_130 (by decide) (fun c_9 => ?_) (fun c_9 => absurd (by rw [er_5, er_8]; exact (la_focus fo (xs (i + 1))).1) c_9)
        refine lv_iinc (v := (nI (i + 5))) (lv' := [(3, .int (nI (i + 5))), (0, .ref b), (1, .ref ob), (2, .ref mo)]) hx hb d_La_law_541 hl (k := 3) rfl (nI_add i 5) (by decide) rfl (fun ls hl => ?_)
        refine lv_goto (tgt := 38) hx hb d_La_law_544 (by decide) ?_
        rw [← (la_focus fo (xs (i + 1))).2] at hP hD
        exact ih (i + 5) _ _ _ _ _ _ _ _ _ _ _ _ _ _ _ _ _ _ _ _ _ _ _ _ _ _ _ (by omega) (by omega) (la_fit hfit) hG hcl hmo _ _ hP hD hS ls (lv_sub hl [1, 2, 3, 0] rfl)
      · refine lv_tableIn (off := 83) (tgt := 135) hx hb d_La_law_52 (by decide) (by decide) (by decide) (by decide) ?_
        refine lv_aload_n hx hb d_La_law_135 rfl (lv_at hl 1 rfl) ?_
        refine lv_aload_n hx hb d_La_law_136 rfl (lv_at hl 0 rfl) ?_
        refine lv_iload_n hx hb d_La_law_137 rfl (lv_at hl 3 rfl) ?_
        refine lv_iconst (v := 1) hx hb d_La_law_138 (by decide) ?_
        refine lv_iadd hx hb d_La_law_139 ?_
        refine lv_topi (fun y_10 ey_10 => ?_)
        have ey_10 : y_10 = nI (i + 1) := by rw [ey_10]; first | rfl | (simp only [nk_set_0, nk_set_1, nk_set_2, nk_set_3, nk_set_4, nk_set_5, nk_set_6, nk_set_7, nk_set_12, nk_set_13, nk_set_18, pk_mul, nI_add]; done) | (simp only [nk_set_0, nk_set_1, nk_set_2, nk_set_3, nk_set_4, nk_set_5, nk_set_6, nk_set_7, nk_set_12, nk_set_13, nk_set_18, pk_mul, nI_add]; exact congrArg nI (by omega))
        subst ey_10
        refine va_sld hx hb hX hbl hbA hS (vp_in_nI (n := i + 1) (by omega) (by omega)) d_La_law_140 ?_
        refine lv_topi (fun y_11 ey_11 => ?_)
        rw [nI_clamp (by omega)] at ey_11
        subst ey_11
        refine lv_aload_n hx hb d_La_law_141 rfl (lv_at hl 0 rfl) ?_
        refine lv_iload_n hx hb d_La_law_142 rfl (lv_at hl 3 rfl) ?_
        refine lv_iconst (v := 2) hx hb d_La_law_143 (by decide) ?_
        refine lv_iadd hx hb d_La_law_144 ?_
        refine lv_topi (fun y_12 ey_12 => ?_)
        have ey_12 : y_12 = nI (i + 2) := by rw [ey_12]; first | rfl | (simp only [nk_set_0, nk_set_1, nk_set_2, nk_set_3, nk_set_4, nk_set_5, nk_set_6, nk_set_7, nk_set_12, nk_set_13, nk_set_18, pk_mul, nI_add]; done) | (simp only [nk_set_0, nk_set_1, nk_set_2, nk_set_3, nk_set_4, nk_set_5, nk_set_6, nk_set_7, nk_set_12, nk_set_13, nk_set_18, pk_mul, nI_add]; exact congrArg nI (by omega))
        subst ey_12
        refine va_sld hx hb hX hbl hbA hS (vp_in_nI (n := i + 2) (by omega) (by omega)) d_La_law_145 ?_
        refine lv_topi (fun y_13 ey_13 => ?_)
        rw [nI_clamp (by omega)] at ey_13
        subst ey_13
        refine lv_aload_n hx hb d_La_law_146 rfl (lv_at hl 0 rfl) ?_
        refine lv_iload_n hx hb d_La_law_147 rfl (lv_at hl 3 rfl) ?_
        refine lv_iconst (v := 3) hx hb d_La_law_148 (by decide) ?_
        refine lv_iadd hx hb d_La_law_149 ?_
        refine lv_topi (fun y_14 ey_14 => ?_)
        have ey_14 : y_14 = nI (i + 3) := by rw [ey_14]; first | rfl | (simp only [nk_set_0, nk_set_1, nk_set_2, nk_set_3, nk_set_4, nk_set_5, nk_set_6, nk_set_7, nk_set_12, nk_set_13, nk_set_18, pk_mul, nI_add]; done) | (simp only [nk_set_0, nk_set_1, nk_set_2, nk_set_3, nk_set_4, nk_set_5, nk_set_6, nk_set_7, nk_set_12, nk_set_13, nk_set_18, pk_mul, nI_add]; exact congrArg nI (by omega))
        subst ey_14
        refine va_sld hx hb hX hbl hbA hS (vp_in_nI (n := i + 3) (by omega) (by omega)) d_La_law_150 ?_
        refine lv_topi (fun y_15 ey_15 => ?_)
        rw [nI_clamp (by omega)] at ey_15
        subst ey_15
        refine lv_aload_n hx hb d_La_law_151 rfl (lv_at hl 0 rfl) ?_
        refine lv_iload_n hx hb d_La_law_152 rfl (lv_at hl 3 rfl) ?_
        refine lv_iconst (v := 4) hx hb d_La_law_153 (by decide) ?_
        refine lv_iadd hx hb d_La_law_154 ?_
        refine lv_topi (fun y_16 ey_16 => ?_)
        have ey_16 : y_16 = nI (i + 4) := by rw [ey_16]; first | rfl | (simp only [nk_set_0, nk_set_1, nk_set_2, nk_set_3, nk_set_4, nk_set_5, nk_set_6, nk_set_7, nk_set_12, nk_set_13, nk_set_18, pk_mul, nI_add]; done) | (simp only [nk_set_0, nk_set_1, nk_set_2, nk_set_3, nk_set_4, nk_set_5, nk_set_6, nk_set_7, nk_set_12, nk_set_13, nk_set_18, pk_mul, nI_add]; exact congrArg nI (by omega))
        subst ey_16
        refine va_sld hx hb hX hbl hbA hS (vp_in_nI (n := i + 4) (by omega) (by omega)) d_La_law_155 ?_
        refine lv_topi (fun y_17 ey_17 => ?_)
        rw [nI_clamp (by omega)] at ey_17
        subst ey_17
        have hPc := hP.sub (ws' := [(ob, .inr (0, [.int (nI wn), .int (nI hn), .int fo, .ref gi, .ref ke, .ref sp, .ref pi, .ref fa])), (gi, .inr (1, [.ref gia, .int 3])), (gia, .inl (cJ, 114, .inr (.inl gif))), (ke, .inr (1, [.ref kea, .int ken])), (kea, .inl (cJ, 114, .inr (.inl kef))), (sp, .inr (1, [.ref spa, .int spn])), (spa, .inl (cJ, 114, .inr (.inl spf))), (pi, .inr (1, [.ref pia, .int (nI pn)])), (pia, .inl (cJ, 114, .inr (.inl pif))), (fa, .inr (2, [.ref fas, .ref fat, .ref faa, .int (nI ct)])), (fas, .inl (cI, 17, .inl faS)), (fat, .inl (cI, 17, .inl faT)), (faa, .inl (cI, 17, .inl faA))]) [0, 1, 2, 3, 4, 5, 6, 7, 8, 9, 10, 11, 12] rfl
        have hDc := hD.sub (ws' := [(ob, .inr (0, [.int (nI wn), .int (nI hn), .int fo, .ref gi, .ref ke, .ref sp, .ref pi, .ref fa])), (gi, .inr (1, [.ref gia, .int 3])), (gia, .inl (cJ, 114, .inr (.inl gif))), (ke, .inr (1, [.ref kea, .int ken])), (kea, .inl (cJ, 114, .inr (.inl kef))), (sp, .inr (1, [.ref spa, .int spn])), (spa, .inl (cJ, 114, .inr (.inl spf))), (pi, .inr (1, [.ref pia, .int (nI pn)])), (pia, .inl (cJ, 114, .inr (.inl pif))), (fa, .inr (2, [.ref fas, .ref fat, .ref faa, .int (nI ct)])), (fas, .inl (cI, 17, .inl faS)), (fat, .inl (cI, 17, .inl faT)), (faa, .inl (cI, 17, .inl faA))]) [0, 1, 2, 3, 4, 5, 6, 7, 8, 9, 10, 11, 12] (by decide) rfl
        have hFc := va_free (wc := [(ob, .inr (0, [.int (nI wn), .int (nI hn), .int fo, .ref gi, .ref ke, .ref sp, .ref pi, .ref fa])), (gi, .inr (1, [.ref gia, .int 3])), (gia, .inl (cJ, 114, .inr (.inl gif))), (ke, .inr (1, [.ref kea, .int ken])), (kea, .inl (cJ, 114, .inr (.inl kef))), (sp, .inr (1, [.ref spa, .int spn])), (spa, .inl (cJ, 114, .inr (.inl spf))), (pi, .inr (1, [.ref pia, .int (nI pn)])), (pia, .inl (cJ, 114, .inr (.inl pif))), (fa, .inr (2, [.ref fas, .ref fat, .ref faa, .int (nI ct)])), (fas, .inl (cI, 17, .inl faS)), (fat, .inl (cI, 17, .inl faT)), (faa, .inl (cI, 17, .inl faA))]) hD hS hA [0, 1, 2, 3, 4, 5, 6, 7, 8, 9, 10, 11, 12] rfl
        refine va_calli (va_runV (As := [.int (xs (i + 1)), .int (xs (i + 2)), .int (xs (i + 3)), .int (xs (i + 4))]) (rest := []) ⟨hx, hb, hml, hown, hts⟩ (c_PC_place l dC dI cJ cI H.size ob (nI wn) (nI hn) fo gi gia 3 gif ke kea ken kef sp spa spn spf pi pia (nI pn) pif fa fas fat faa (nI ct) faS faT faA (xs (i + 1)) (xs (i + 2)) (xs (i + 3)) (xs (i + 4))) (cwV 4 hts (gd_V wd_101 wd_102 wd_103 wd_33 wd_104) rfl rfl rfl (by decide +kernel) ⟨Nat.le_of_ble_eq_true rfl, Nat.le_of_ble_eq_true rfl⟩) ⟨fb_rw, va_recv hK hPc (ci := 0) (q0 := 0) rfl rfl, pre_rw hK hN hPc hDc⟩ rfl rfl hl.1 rfl (lv_room (Nat.le_of_ble_eq_true rfl)) d_La_law_156 ⟨Nat.le_of_ble_eq_true rfl, Nat.le_of_ble_eq_true rfl⟩) hS (fun q _ h => hFc q h) hFc (fun r_18 u t H locs ht hvm hw hB hz1 hk1 hS => ?_)
        obtain ⟨hP1, hD1⟩ := hB
        rw [ht] at hP1
        obtain ⟨hP, hD⟩ := va_join (wr := [(mo, .inr (3, [.int 0, .int (nI wn), .int (nI hn), .int fo, .ref mt, .ref mr, .int ma, .ref mx, .int mn, .ref mp, .ref mq, .int (nI ct)])), (mt, .inl (cJ, 18, .inr (.inl gif))), (mr, .inl (cJ, 120, .inr (.inl mrf))), (mx, .inl (cJ, 120, .inr (.inl mxf))), (mp, .inl (cJ, 324, .inr (.inl mpf))), (mq, .inl (cJ, 18, .inr (.inl mqf)))]) (w1 := [(ob, .inr (0, [.int (nI wn), .int (nI hn), .int fo, .ref gi, .ref ke, .ref sp, .ref pi, .ref fa])), (gi, .inr (1, [.ref gia, .int 3])), (gia, .inl (cJ, 114, .inr (.inl (f_PC_place_2 3 gif (xs (i + 1)) (xs (i + 2)) (xs (i + 3)) (xs (i + 4)))))), (ke, .inr (1, [.ref kea, .int ken])), (kea, .inl (cJ, 114, .inr (.inl kef))), (sp, .inr (1, [.ref spa, .int spn])), (spa, .inl (cJ, 114, .inr (.inl spf))), (pi, .inr (1, [.ref pia, .int (nI pn)])), (pia, .inl (cJ, 114, .inr (.inl pif))), (fa, .inr (2, [.ref fas, .ref fat, .ref faa, .int (nI ct)])), (fas, .inl (cI, 17, .inl faS)), (fat, .inl (cI, 17, .inl faT)), (faa, .inl (cI, 17, .inl faA))]) hP hD [0, 1, 2, 3, 4, 5, 6, 7, 8, 9, 10, 11, 12] [13, 14, 15, 16, 17, 18] rfl rfl (by decide) (by decide) hk1 hFc hP1 hD1
        have er_18 := hw
        have er_18 : r_18 = f_PC_place_r 3 (xs (i + 1)) (xs (i + 2)) (xs (i + 3)) (xs (i + 4)) := er_18
        have hP : va_P (dC, dI) cls4 [(ob, .inr (0, [.int (nI wn), .int (nI hn), .int fo, .ref gi, .ref ke, .ref sp, .ref pi, .ref fa])), (gi, .inr (1, [.ref gia, .int 3])), (gia, .inl (cJ, 114, .inr (.inl (f_PC_place_2 3 gif (xs (i + 1)) (xs (i + 2)) (xs (i + 3)) (xs (i + 4)))))), (ke, .inr (1, [.ref kea, .int ken])), (kea, .inl (cJ, 114, .inr (.inl kef))), (sp, .inr (1, [.ref spa, .int spn])), (spa, .inl (cJ, 114, .inr (.inl spf))), (pi, .inr (1, [.ref pia, .int (nI pn)])), (pia, .inl (cJ, 114, .inr (.inl pif))), (fa, .inr (2, [.ref fas, .ref fat, .ref faa, .int (nI ct)])), (fas, .inl (cI, 17, .inl faS)), (fat, .inl (cI, 17, .inl faT)), (faa, .inl (cI, 17, .inl faA)), (mo, .inr (3, [.int 0, .int (nI wn), .int (nI hn), .int fo, .ref mt, .ref mr, .int ma, .ref mx, .int mn, .ref mp, .ref mq, .int (nI ct)])), (mt, .inl (cJ, 18, .inr (.inl gif))), (mr, .inl (cJ, 120, .inr (.inl mrf))), (mx, .inl (cJ, 120, .inr (.inl mxf))), (mp, .inl (cJ, 324, .inr (.inl mpf))), (mq, .inl (cJ, 18, .inr (.inl mqf)))] H := hP.sub [6, 7, 8, 9, 10, 11, 12, 13, 14, 15, 16, 17, 18, 0, 1, 2, 3, 4, 5] rfl
        have hD : va_D A [(ob, .inr (0, [.int (nI wn), .int (nI hn), .int fo, .ref gi, .ref ke, .ref sp, .ref pi, .ref fa])), (gi, .inr (1, [.ref gia, .int 3])), (gia, .inl (cJ, 114, .inr (.inl (f_PC_place_2 3 gif (xs (i + 1)) (xs (i + 2)) (xs (i + 3)) (xs (i + 4)))))), (ke, .inr (1, [.ref kea, .int ken])), (kea, .inl (cJ, 114, .inr (.inl kef))), (sp, .inr (1, [.ref spa, .int spn])), (spa, .inl (cJ, 114, .inr (.inl spf))), (pi, .inr (1, [.ref pia, .int (nI pn)])), (pia, .inl (cJ, 114, .inr (.inl pif))), (fa, .inr (2, [.ref fas, .ref fat, .ref faa, .int (nI ct)])), (fas, .inl (cI, 17, .inl faS)), (fat, .inl (cI, 17, .inl faT)), (faa, .inl (cI, 17, .inl faA)), (mo, .inr (3, [.int 0, .int (nI wn), .int (nI hn), .int fo, .ref mt, .ref mr, .int ma, .ref mx, .int mn, .ref mp, .ref mq, .int (nI ct)])), (mt, .inl (cJ, 18, .inr (.inl gif))), (mr, .inl (cJ, 120, .inr (.inl mrf))), (mx, .inl (cJ, 120, .inr (.inl mxf))), (mp, .inl (cJ, 324, .inr (.inl mpf))), (mq, .inl (cJ, 18, .inr (.inl mqf)))] := hD.sub [6, 7, 8, 9, 10, 11, 12, 13, 14, 15, 16, 17, 18, 0, 1, 2, 3, 4, 5] (by decide) rfl
        refine lv_aload_n hx hb d_La_law_159 rfl (lv_at hl 2 rfl) ?_
        refine lv_aload_n hx hb d_La_law_160 rfl (lv_at hl 0 rfl) ?_
        refine lv_iload_n hx hb d_La_law_161 rfl (lv_at hl 3 rfl) ?_
        refine lv_iconst (v := 1) hx hb d_La_law_162 (by decide) ?_
        refine lv_iadd hx hb d_La_law_163 ?_
        refine lv_topi (fun y_19 ey_19 => ?_)
        have ey_19 : y_19 = nI (i + 1) := by rw [ey_19]; first | rfl | (simp only [nk_set_0, nk_set_1, nk_set_2, nk_set_3, nk_set_4, nk_set_5, nk_set_6, nk_set_7, nk_set_12, nk_set_13, nk_set_18, pk_mul, nI_add]; done) | (simp only [nk_set_0, nk_set_1, nk_set_2, nk_set_3, nk_set_4, nk_set_5, nk_set_6, nk_set_7, nk_set_12, nk_set_13, nk_set_18, pk_mul, nI_add]; exact congrArg nI (by omega))
        subst ey_19
        refine va_sld hx hb hX hbl hbA hS (vp_in_nI (n := i + 1) (by omega) (by omega)) d_La_law_164 ?_
        refine lv_topi (fun y_20 ey_20 => ?_)
        rw [nI_clamp (by omega)] at ey_20
        subst ey_20
        refine lv_aload_n hx hb d_La_law_165 rfl (lv_at hl 0 rfl) ?_
        refine lv_iload_n hx hb d_La_law_166 rfl (lv_at hl 3 rfl) ?_
        refine lv_iconst (v := 2) hx hb d_La_law_167 (by decide) ?_
        refine lv_iadd hx hb d_La_law_168 ?_
        refine lv_topi (fun y_21 ey_21 => ?_)
        have ey_21 : y_21 = nI (i + 2) := by rw [ey_21]; first | rfl | (simp only [nk_set_0, nk_set_1, nk_set_2, nk_set_3, nk_set_4, nk_set_5, nk_set_6, nk_set_7, nk_set_12, nk_set_13, nk_set_18, pk_mul, nI_add]; done) | (simp only [nk_set_0, nk_set_1, nk_set_2, nk_set_3, nk_set_4, nk_set_5, nk_set_6, nk_set_7, nk_set_12, nk_set_13, nk_set_18, pk_mul, nI_add]; exact congrArg nI (by omega))
        subst ey_21
        refine va_sld hx hb hX hbl hbA hS (vp_in_nI (n := i + 2) (by omega) (by omega)) d_La_law_169 ?_
        refine lv_topi (fun y_22 ey_22 => ?_)
        rw [nI_clamp (by omega)] at ey_22
        subst ey_22
        refine lv_aload_n hx hb d_La_law_170 rfl (lv_at hl 0 rfl) ?_
        refine lv_iload_n hx hb d_La_law_171 rfl (lv_at hl 3 rfl) ?_
        refine lv_iconst (v := 3) hx hb d_La_law_172 (by decide) ?_
        refine lv_iadd hx hb d_La_law_173 ?_
        refine lv_topi (fun y_23 ey_23 => ?_)
        have ey_23 : y_23 = nI (i + 3) := by rw [ey_23]; first | rfl | (simp only [nk_set_0, nk_set_1, nk_set_2, nk_set_3, nk_set_4, nk_set_5, nk_set_6, nk_set_7, nk_set_12, nk_set_13, nk_set_18, pk_mul, nI_add]; done) | (simp only [nk_set_0, nk_set_1, nk_set_2, nk_set_3, nk_set_4, nk_set_5, nk_set_6, nk_set_7, nk_set_12, nk_set_13, nk_set_18, pk_mul, nI_add]; exact congrArg nI (by omega))
        subst ey_23
        refine va_sld hx hb hX hbl hbA hS (vp_in_nI (n := i + 3) (by omega) (by omega)) d_La_law_174 ?_
        refine lv_topi (fun y_24 ey_24 => ?_)
        rw [nI_clamp (by omega)] at ey_24
        subst ey_24
        refine lv_aload_n hx hb d_La_law_175 rfl (lv_at hl 0 rfl) ?_
        refine lv_iload_n hx hb d_La_law_176 rfl (lv_at hl 3 rfl) ?_
        refine lv_iconst (v := 4) hx hb d_La_law_177 (by decide) ?_
        refine lv_iadd hx hb d_La_law_178 ?_
        refine lv_topi (fun y_25 ey_25 => ?_)
        have ey_25 : y_25 = nI (i + 4) := by rw [ey_25]; first | rfl | (simp only [nk_set_0, nk_set_1, nk_set_2, nk_set_3, nk_set_4, nk_set_5, nk_set_6, nk_set_7, nk_set_12, nk_set_13, nk_set_18, pk_mul, nI_add]; done) | (simp only [nk_set_0, nk_set_1, nk_set_2, nk_set_3, nk_set_4, nk_set_5, nk_set_6, nk_set_7, nk_set_12, nk_set_13, nk_set_18, pk_mul, nI_add]; exact congrArg nI (by omega))
        subst ey_25
        refine va_sld hx hb hX hbl hbA hS (vp_in_nI (n := i + 4) (by omega) (by omega)) d_La_law_179 ?_
        refine lv_topi (fun y_26 ey_26 => ?_)
        rw [nI_clamp (by omega)] at ey_26
        subst ey_26
        have hPc := hP.sub (ws' := [(mo, .inr (3, [.int 0, .int (nI wn), .int (nI hn), .int fo, .ref mt, .ref mr, .int ma, .ref mx, .int mn, .ref mp, .ref mq, .int (nI ct)])), (mt, .inl (cJ, 18, .inr (.inl gif))), (mr, .inl (cJ, 120, .inr (.inl mrf))), (mx, .inl (cJ, 120, .inr (.inl mxf))), (mp, .inl (cJ, 324, .inr (.inl mpf))), (mq, .inl (cJ, 18, .inr (.inl mqf)))]) [13, 14, 15, 16, 17, 18] rfl
        have hDc := hD.sub (ws' := [(mo, .inr (3, [.int 0, .int (nI wn), .int (nI hn), .int fo, .ref mt, .ref mr, .int ma, .ref mx, .int mn, .ref mp, .ref mq, .int (nI ct)])), (mt, .inl (cJ, 18, .inr (.inl gif))), (mr, .inl (cJ, 120, .inr (.inl mrf))), (mx, .inl (cJ, 120, .inr (.inl mxf))), (mp, .inl (cJ, 324, .inr (.inl mpf))), (mq, .inl (cJ, 18, .inr (.inl mqf)))]) [13, 14, 15, 16, 17, 18] (by decide) rfl
        have hFc := va_free (wc := [(mo, .inr (3, [.int 0, .int (nI wn), .int (nI hn), .int fo, .ref mt, .ref mr, .int ma, .ref mx, .int mn, .ref mp, .ref mq, .int (nI ct)])), (mt, .inl (cJ, 18, .inr (.inl gif))), (mr, .inl (cJ, 120, .inr (.inl mrf))), (mx, .inl (cJ, 120, .inr (.inl mxf))), (mp, .inl (cJ, 324, .inr (.inl mpf))), (mq, .inl (cJ, 18, .inr (.inl mqf)))]) hD hS hA [13, 14, 15, 16, 17, 18] rfl
        refine va_calli (va_runV (As := [.int (xs (i + 1)), .int (xs (i + 2)), .int (xs (i + 3)), .int (xs (i + 4))]) (rest := [.int r_18]) ⟨hx, hb, hml, hown, hts⟩ (c_Mo_place l dC dI cJ cI H.size mo (nI wn) (nI hn) fo mt mr ma mx mn mp mq ct gif mrf mxf mpf mqf (xs (i + 1)) (xs (i + 2)) (xs (i + 3)) (xs (i + 4))) (cwV 4 hts (gd_V wd_268 wd_269 wd_270 wd_37 wd_271) rfl rfl rfl (by decide +kernel) ⟨Nat.le_of_ble_eq_true rfl, Nat.le_of_ble_eq_true rfl⟩) ⟨fb_rw, va_recv hK hPc (ci := 3) (q0 := 0) rfl rfl, pre_rw hK hN hPc hDc⟩ rfl rfl hl.1 rfl (lv_room (Nat.le_of_ble_eq_true rfl)) d_La_law_180 ⟨Nat.le_of_ble_eq_true rfl, Nat.le_of_ble_eq_true rfl⟩) hS (fun q _ h => hFc q h) hFc (fun r_27 u t H locs ht hvm hw hB hz1 hk1 hS => ?_)
        obtain ⟨hP1, hD1⟩ := hB
        rw [ht] at hP1
        obtain ⟨hP, hD⟩ := va_join (wr := [(ob, .inr (0, [.int (nI wn), .int (nI hn), .int fo, .ref gi, .ref ke, .ref sp, .ref pi, .ref fa])), (gi, .inr (1, [.ref gia, .int 3])), (gia, .inl (cJ, 114, .inr (.inl (f_PC_place_2 3 gif (xs (i + 1)) (xs (i + 2)) (xs (i + 3)) (xs (i + 4)))))), (ke, .inr (1, [.ref kea, .int ken])), (kea, .inl (cJ, 114, .inr (.inl kef))), (sp, .inr (1, [.ref spa, .int spn])), (spa, .inl (cJ, 114, .inr (.inl spf))), (pi, .inr (1, [.ref pia, .int (nI pn)])), (pia, .inl (cJ, 114, .inr (.inl pif))), (fa, .inr (2, [.ref fas, .ref fat, .ref faa, .int (nI ct)])), (fas, .inl (cI, 17, .inl faS)), (fat, .inl (cI, 17, .inl faT)), (faa, .inl (cI, 17, .inl faA))]) (w1 := [(mo, .inr (3, [.int 0, .int (nI wn), .int (nI hn), .int fo, .ref mt, .ref mr, .int ma, .ref mx, .int mn, .ref mp, .ref mq, .int (nI ct)])), (mt, .inl (cJ, 18, .inr (.inl (f_Mo_place_1 gif (xs (i + 1)) (xs (i + 2)) (xs (i + 3)) (xs (i + 4)))))), (mr, .inl (cJ, 120, .inr (.inl mrf))), (mx, .inl (cJ, 120, .inr (.inl mxf))), (mp, .inl (cJ, 324, .inr (.inl mpf))), (mq, .inl (cJ, 18, .inr (.inl mqf)))]) hP hD [13, 14, 15, 16, 17, 18] [0, 1, 2, 3, 4, 5, 6, 7, 8, 9, 10, 11, 12] rfl rfl (by decide) (by decide) hk1 hFc hP1 hD1
        have er_27 := hw
        have er_27 : r_27 = f_Mo_place_r (xs (i + 1)) (xs (i + 2)) (xs (i + 3)) (xs (i + 4)) := er_27
        have hP : va_P (dC, dI) cls4 [(ob, .inr (0, [.int (nI wn), .int (nI hn), .int fo, .ref gi, .ref ke, .ref sp, .ref pi, .ref fa])), (gi, .inr (1, [.ref gia, .int 3])), (gia, .inl (cJ, 114, .inr (.inl (f_PC_place_2 3 gif (xs (i + 1)) (xs (i + 2)) (xs (i + 3)) (xs (i + 4)))))), (ke, .inr (1, [.ref kea, .int ken])), (kea, .inl (cJ, 114, .inr (.inl kef))), (sp, .inr (1, [.ref spa, .int spn])), (spa, .inl (cJ, 114, .inr (.inl spf))), (pi, .inr (1, [.ref pia, .int (nI pn)])), (pia, .inl (cJ, 114, .inr (.inl pif))), (fa, .inr (2, [.ref fas, .ref fat, .ref faa, .int (nI ct)])), (fas, .inl (cI, 17, .inl faS)), (fat, .inl (cI, 17, .inl faT)), (faa, .inl (cI, 17, .inl faA)), (mo, .inr (3, [.int 0, .int (nI wn), .int (nI hn), .int fo, .ref mt, .ref mr, .int ma, .ref mx, .int mn, .ref mp, .ref mq, .int (nI ct)])), (mt, .inl (cJ, 18, .inr (.inl (f_Mo_place_1 gif (xs (i + 1)) (xs (i + 2)) (xs (i + 3)) (xs (i + 4)))))), (mr, .inl (cJ, 120, .inr (.inl mrf))), (mx, .inl (cJ, 120, .inr (.inl mxf))), (mp, .inl (cJ, 324, .inr (.inl mpf))), (mq, .inl (cJ, 18, .inr (.inl mqf)))] H := hP
        have hD : va_D A [(ob, .inr (0, [.int (nI wn), .int (nI hn), .int fo, .ref gi, .ref ke, .ref sp, .ref pi, .ref fa])), (gi, .inr (1, [.ref gia, .int 3])), (gia, .inl (cJ, 114, .inr (.inl (f_PC_place_2 3 gif (xs (i + 1)) (xs (i + 2)) (xs (i + 3)) (xs (i + 4)))))), (ke, .inr (1, [.ref kea, .int ken])), (kea, .inl (cJ, 114, .inr (.inl kef))), (sp, .inr (1, [.ref spa, .int spn])), (spa, .inl (cJ, 114, .inr (.inl spf))), (pi, .inr (1, [.ref pia, .int (nI pn)])), (pia, .inl (cJ, 114, .inr (.inl pif))), (fa, .inr (2, [.ref fas, .ref fat, .ref faa, .int (nI ct)])), (fas, .inl (cI, 17, .inl faS)), (fat, .inl (cI, 17, .inl faT)), (faa, .inl (cI, 17, .inl faA)), (mo, .inr (3, [.int 0, .int (nI wn), .int (nI hn), .int fo, .ref mt, .ref mr, .int ma, .ref mx, .int mn, .ref mp, .ref mq, .int (nI ct)])), (mt, .inl (cJ, 18, .inr (.inl (f_Mo_place_1 gif (xs (i + 1)) (xs (i + 2)) (xs (i + 3)) (xs (i + 4)))))), (mr, .inl (cJ, 120, .inr (.inl mrf))), (mx, .inl (cJ, 120, .inr (.inl mxf))), (mp, .inl (cJ, 324, .inr (.inl mpf))), (mq, .inl (cJ, 18, .inr (.inl mqf)))] := hD
        refine lv_icmp_eq (tgt := 541) hx hb d_La_law_183 (by decide) (fun c_28 => ?_) (fun c_28 => absurd (by rw [er_18, er_27]; exact (la_place gif (xs (i + 1)) (xs (i + 2)) (xs (i + 3)) (xs (i + 4))).1) c_28)
        refine lv_iinc (v := (nI (i + 5))) (lv' := [(3, .int (nI (i + 5))), (0, .ref b), (1, .ref ob), (2, .ref mo)]) hx hb d_La_law_541 hl (k := 3) rfl (nI_add i 5) (by decide) rfl (fun ls hl => ?_)
        refine lv_goto (tgt := 38) hx hb d_La_law_544 (by decide) ?_
        rw [(la_place gif (xs (i + 1)) (xs (i + 2)) (xs (i + 3)) (xs (i + 4))).2] at hP hD
        exact ih (i + 5) _ _ _ _ _ _ _ _ _ _ _ _ _ _ _ _ _ _ _ _ _ _ _ _ _ _ _ (by omega) (by omega) hfit (la_placeG hG (xs (i + 1)) (xs (i + 2)) (xs (i + 3)) (xs (i + 4))) hcl hmo _ _ hP hD hS ls (lv_sub hl [1, 2, 3, 0] rfl)
      · refine lv_tableIn (off := 136) (tgt := 188) hx hb d_La_law_52 (by decide) (by decide) (by decide) (by decide) ?_
        refine lv_aload_n hx hb d_La_law_188 rfl (lv_at hl 1 rfl) ?_
        refine lv_aload_n hx hb d_La_law_189 rfl (lv_at hl 0 rfl) ?_
        refine lv_iload_n hx hb d_La_law_190 rfl (lv_at hl 3 rfl) ?_
        refine lv_iconst (v := 1) hx hb d_La_law_191 (by decide) ?_
        refine lv_iadd hx hb d_La_law_192 ?_
        refine lv_topi (fun y_29 ey_29 => ?_)
        have ey_29 : y_29 = nI (i + 1) := by rw [ey_29]; first | rfl | (simp only [nk_set_0, nk_set_1, nk_set_2, nk_set_3, nk_set_4, nk_set_5, nk_set_6, nk_set_7, nk_set_12, nk_set_13, nk_set_18, pk_mul, nI_add]; done) | (simp only [nk_set_0, nk_set_1, nk_set_2, nk_set_3, nk_set_4, nk_set_5, nk_set_6, nk_set_7, nk_set_12, nk_set_13, nk_set_18, pk_mul, nI_add]; exact congrArg nI (by omega))
        subst ey_29
        refine va_sld hx hb hX hbl hbA hS (vp_in_nI (n := i + 1) (by omega) (by omega)) d_La_law_193 ?_
        refine lv_topi (fun y_30 ey_30 => ?_)
        rw [nI_clamp (by omega)] at ey_30
        subst ey_30
        refine lv_aload_n hx hb d_La_law_194 rfl (lv_at hl 0 rfl) ?_
        refine lv_iload_n hx hb d_La_law_195 rfl (lv_at hl 3 rfl) ?_
        refine lv_iconst (v := 2) hx hb d_La_law_196 (by decide) ?_
        refine lv_iadd hx hb d_La_law_197 ?_
        refine lv_topi (fun y_31 ey_31 => ?_)
        have ey_31 : y_31 = nI (i + 2) := by rw [ey_31]; first | rfl | (simp only [nk_set_0, nk_set_1, nk_set_2, nk_set_3, nk_set_4, nk_set_5, nk_set_6, nk_set_7, nk_set_12, nk_set_13, nk_set_18, pk_mul, nI_add]; done) | (simp only [nk_set_0, nk_set_1, nk_set_2, nk_set_3, nk_set_4, nk_set_5, nk_set_6, nk_set_7, nk_set_12, nk_set_13, nk_set_18, pk_mul, nI_add]; exact congrArg nI (by omega))
        subst ey_31
        refine va_sld hx hb hX hbl hbA hS (vp_in_nI (n := i + 2) (by omega) (by omega)) d_La_law_198 ?_
        refine lv_topi (fun y_32 ey_32 => ?_)
        rw [nI_clamp (by omega)] at ey_32
        subst ey_32
        refine lv_aload_n hx hb d_La_law_199 rfl (lv_at hl 0 rfl) ?_
        refine lv_iload_n hx hb d_La_law_200 rfl (lv_at hl 3 rfl) ?_
        refine lv_iconst (v := 3) hx hb d_La_law_201 (by decide) ?_
        refine lv_iadd hx hb d_La_law_202 ?_
        refine lv_topi (fun y_33 ey_33 => ?_)
        have ey_33 : y_33 = nI (i + 3) := by rw [ey_33]; first | rfl | (simp only [nk_set_0, nk_set_1, nk_set_2, nk_set_3, nk_set_4, nk_set_5, nk_set_6, nk_set_7, nk_set_12, nk_set_13, nk_set_18, pk_mul, nI_add]; done) | (simp only [nk_set_0, nk_set_1, nk_set_2, nk_set_3, nk_set_4, nk_set_5, nk_set_6, nk_set_7, nk_set_12, nk_set_13, nk_set_18, pk_mul, nI_add]; exact congrArg nI (by omega))
        subst ey_33
        refine va_sld hx hb hX hbl hbA hS (vp_in_nI (n := i + 3) (by omega) (by omega)) d_La_law_203 ?_
        refine lv_topi (fun y_34 ey_34 => ?_)
        rw [nI_clamp (by omega)] at ey_34
        subst ey_34
        refine lv_aload_n hx hb d_La_law_204 rfl (lv_at hl 0 rfl) ?_
        refine lv_iload_n hx hb d_La_law_205 rfl (lv_at hl 3 rfl) ?_
        refine lv_iconst (v := 4) hx hb d_La_law_206 (by decide) ?_
        refine lv_iadd hx hb d_La_law_207 ?_
        refine lv_topi (fun y_35 ey_35 => ?_)
        have ey_35 : y_35 = nI (i + 4) := by rw [ey_35]; first | rfl | (simp only [nk_set_0, nk_set_1, nk_set_2, nk_set_3, nk_set_4, nk_set_5, nk_set_6, nk_set_7, nk_set_12, nk_set_13, nk_set_18, pk_mul, nI_add]; done) | (simp only [nk_set_0, nk_set_1, nk_set_2, nk_set_3, nk_set_4, nk_set_5, nk_set_6, nk_set_7, nk_set_12, nk_set_13, nk_set_18, pk_mul, nI_add]; exact congrArg nI (by omega))
        subst ey_35
        refine va_sld hx hb hX hbl hbA hS (vp_in_nI (n := i + 4) (by omega) (by omega)) d_La_law_208 ?_
        refine lv_topi (fun y_36 ey_36 => ?_)
        rw [nI_clamp (by omega)] at ey_36
        subst ey_36
        have hPc := hP.sub (ws' := [(ob, .inr (0, [.int (nI wn), .int (nI hn), .int fo, .ref gi, .ref ke, .ref sp, .ref pi, .ref fa])), (gi, .inr (1, [.ref gia, .int 3])), (gia, .inl (cJ, 114, .inr (.inl gif))), (ke, .inr (1, [.ref kea, .int ken])), (kea, .inl (cJ, 114, .inr (.inl kef))), (sp, .inr (1, [.ref spa, .int spn])), (spa, .inl (cJ, 114, .inr (.inl spf))), (pi, .inr (1, [.ref pia, .int (nI pn)])), (pia, .inl (cJ, 114, .inr (.inl pif))), (fa, .inr (2, [.ref fas, .ref fat, .ref faa, .int (nI ct)])), (fas, .inl (cI, 17, .inl faS)), (fat, .inl (cI, 17, .inl faT)), (faa, .inl (cI, 17, .inl faA))]) [0, 1, 2, 3, 4, 5, 6, 7, 8, 9, 10, 11, 12] rfl
        have hDc := hD.sub (ws' := [(ob, .inr (0, [.int (nI wn), .int (nI hn), .int fo, .ref gi, .ref ke, .ref sp, .ref pi, .ref fa])), (gi, .inr (1, [.ref gia, .int 3])), (gia, .inl (cJ, 114, .inr (.inl gif))), (ke, .inr (1, [.ref kea, .int ken])), (kea, .inl (cJ, 114, .inr (.inl kef))), (sp, .inr (1, [.ref spa, .int spn])), (spa, .inl (cJ, 114, .inr (.inl spf))), (pi, .inr (1, [.ref pia, .int (nI pn)])), (pia, .inl (cJ, 114, .inr (.inl pif))), (fa, .inr (2, [.ref fas, .ref fat, .ref faa, .int (nI ct)])), (fas, .inl (cI, 17, .inl faS)), (fat, .inl (cI, 17, .inl faT)), (faa, .inl (cI, 17, .inl faA))]) [0, 1, 2, 3, 4, 5, 6, 7, 8, 9, 10, 11, 12] (by decide) rfl
        have hFc := va_free (wc := [(ob, .inr (0, [.int (nI wn), .int (nI hn), .int fo, .ref gi, .ref ke, .ref sp, .ref pi, .ref fa])), (gi, .inr (1, [.ref gia, .int 3])), (gia, .inl (cJ, 114, .inr (.inl gif))), (ke, .inr (1, [.ref kea, .int ken])), (kea, .inl (cJ, 114, .inr (.inl kef))), (sp, .inr (1, [.ref spa, .int spn])), (spa, .inl (cJ, 114, .inr (.inl spf))), (pi, .inr (1, [.ref pia, .int (nI pn)])), (pia, .inl (cJ, 114, .inr (.inl pif))), (fa, .inr (2, [.ref fas, .ref fat, .ref faa, .int (nI ct)])), (fas, .inl (cI, 17, .inl faS)), (fat, .inl (cI, 17, .inl faT)), (faa, .inl (cI, 17, .inl faA))]) hD hS hA [0, 1, 2, 3, 4, 5, 6, 7, 8, 9, 10, 11, 12] rfl
        refine va_calli (va_runV (As := [.int (xs (i + 1)), .int (xs (i + 2)), .int (xs (i + 3)), .int (xs (i + 4))]) (rest := []) ⟨hx, hb, hml, hown, hts⟩ (c_PC_paint l dC dI cJ cI H.size ob (nI wn) (nI hn) fo gi gia 3 gif ke kea ken kef sp spa spn spf pi pia (nI pn) pif fa fas fat faa (nI ct) faS faT faA (xs (i + 1)) (xs (i + 2)) (xs (i + 3)) (xs (i + 4))) (cwV 4 hts (gd_V wd_115 wd_116 wd_117 wd_33 wd_118) rfl rfl rfl (by decide +kernel) ⟨Nat.le_of_ble_eq_true rfl, Nat.le_of_ble_eq_true rfl⟩) ⟨fb_rw, va_recv hK hPc (ci := 0) (q0 := 0) rfl rfl, pre_rw hK hN hPc hDc⟩ rfl rfl hl.1 rfl (lv_room (Nat.le_of_ble_eq_true rfl)) d_La_law_209 ⟨Nat.le_of_ble_eq_true rfl, Nat.le_of_ble_eq_true rfl⟩) hS (fun q _ h => hFc q h) hFc (fun r_37 u t H locs ht hvm hw hB hz1 hk1 hS => ?_)
        obtain ⟨hP1, hD1⟩ := hB
        rw [ht] at hP1
        obtain ⟨hP, hD⟩ := va_join (wr := [(mo, .inr (3, [.int 0, .int (nI wn), .int (nI hn), .int fo, .ref mt, .ref mr, .int ma, .ref mx, .int mn, .ref mp, .ref mq, .int (nI ct)])), (mt, .inl (cJ, 18, .inr (.inl gif))), (mr, .inl (cJ, 120, .inr (.inl mrf))), (mx, .inl (cJ, 120, .inr (.inl mxf))), (mp, .inl (cJ, 324, .inr (.inl mpf))), (mq, .inl (cJ, 18, .inr (.inl mqf)))]) (w1 := [(ob, .inr (0, [.int (nI wn), .int (nI hn), .int fo, .ref gi, .ref ke, .ref sp, .ref pi, .ref fa])), (gi, .inr (1, [.ref gia, .int 3])), (gia, .inl (cJ, 114, .inr (.inl (f_PC_paint_2 3 gif (xs (i + 1)) (xs (i + 2)) (xs (i + 3)) (xs (i + 4)))))), (ke, .inr (1, [.ref kea, .int ken])), (kea, .inl (cJ, 114, .inr (.inl kef))), (sp, .inr (1, [.ref spa, .int spn])), (spa, .inl (cJ, 114, .inr (.inl spf))), (pi, .inr (1, [.ref pia, .int (nI pn)])), (pia, .inl (cJ, 114, .inr (.inl pif))), (fa, .inr (2, [.ref fas, .ref fat, .ref faa, .int (nI ct)])), (fas, .inl (cI, 17, .inl faS)), (fat, .inl (cI, 17, .inl faT)), (faa, .inl (cI, 17, .inl faA))]) hP hD [0, 1, 2, 3, 4, 5, 6, 7, 8, 9, 10, 11, 12] [13, 14, 15, 16, 17, 18] rfl rfl (by decide) (by decide) hk1 hFc hP1 hD1
        have er_37 := hw
        have er_37 : r_37 = f_PC_paint_r 3 (xs (i + 1)) (xs (i + 2)) (xs (i + 3)) (xs (i + 4)) := er_37
        have hP : va_P (dC, dI) cls4 [(ob, .inr (0, [.int (nI wn), .int (nI hn), .int fo, .ref gi, .ref ke, .ref sp, .ref pi, .ref fa])), (gi, .inr (1, [.ref gia, .int 3])), (gia, .inl (cJ, 114, .inr (.inl (f_PC_paint_2 3 gif (xs (i + 1)) (xs (i + 2)) (xs (i + 3)) (xs (i + 4)))))), (ke, .inr (1, [.ref kea, .int ken])), (kea, .inl (cJ, 114, .inr (.inl kef))), (sp, .inr (1, [.ref spa, .int spn])), (spa, .inl (cJ, 114, .inr (.inl spf))), (pi, .inr (1, [.ref pia, .int (nI pn)])), (pia, .inl (cJ, 114, .inr (.inl pif))), (fa, .inr (2, [.ref fas, .ref fat, .ref faa, .int (nI ct)])), (fas, .inl (cI, 17, .inl faS)), (fat, .inl (cI, 17, .inl faT)), (faa, .inl (cI, 17, .inl faA)), (mo, .inr (3, [.int 0, .int (nI wn), .int (nI hn), .int fo, .ref mt, .ref mr, .int ma, .ref mx, .int mn, .ref mp, .ref mq, .int (nI ct)])), (mt, .inl (cJ, 18, .inr (.inl gif))), (mr, .inl (cJ, 120, .inr (.inl mrf))), (mx, .inl (cJ, 120, .inr (.inl mxf))), (mp, .inl (cJ, 324, .inr (.inl mpf))), (mq, .inl (cJ, 18, .inr (.inl mqf)))] H := hP.sub [6, 7, 8, 9, 10, 11, 12, 13, 14, 15, 16, 17, 18, 0, 1, 2, 3, 4, 5] rfl
        have hD : va_D A [(ob, .inr (0, [.int (nI wn), .int (nI hn), .int fo, .ref gi, .ref ke, .ref sp, .ref pi, .ref fa])), (gi, .inr (1, [.ref gia, .int 3])), (gia, .inl (cJ, 114, .inr (.inl (f_PC_paint_2 3 gif (xs (i + 1)) (xs (i + 2)) (xs (i + 3)) (xs (i + 4)))))), (ke, .inr (1, [.ref kea, .int ken])), (kea, .inl (cJ, 114, .inr (.inl kef))), (sp, .inr (1, [.ref spa, .int spn])), (spa, .inl (cJ, 114, .inr (.inl spf))), (pi, .inr (1, [.ref pia, .int (nI pn)])), (pia, .inl (cJ, 114, .inr (.inl pif))), (fa, .inr (2, [.ref fas, .ref fat, .ref faa, .int (nI ct)])), (fas, .inl (cI, 17, .inl faS)), (fat, .inl (cI, 17, .inl faT)), (faa, .inl (cI, 17, .inl faA)), (mo, .inr (3, [.int 0, .int (nI wn), .int (nI hn), .int fo, .ref mt, .ref mr, .int ma, .ref mx, .int mn, .ref mp, .ref mq, .int (nI ct)])), (mt, .inl (cJ, 18, .inr (.inl gif))), (mr, .inl (cJ, 120, .inr (.inl mrf))), (mx, .inl (cJ, 120, .inr (.inl mxf))), (mp, .inl (cJ, 324, .inr (.inl mpf))), (mq, .inl (cJ, 18, .inr (.inl mqf)))] := hD.sub [6, 7, 8, 9, 10, 11, 12, 13, 14, 15, 16, 17, 18, 0, 1, 2, 3, 4, 5] (by decide) rfl
        refine lv_aload_n hx hb d_La_law_212 rfl (lv_at hl 2 rfl) ?_
        refine lv_aload_n hx hb d_La_law_213 rfl (lv_at hl 0 rfl) ?_
        refine lv_iload_n hx hb d_La_law_214 rfl (lv_at hl 3 rfl) ?_
        refine lv_iconst (v := 1) hx hb d_La_law_215 (by decide) ?_
        refine lv_iadd hx hb d_La_law_216 ?_
        refine lv_topi (fun y_38 ey_38 => ?_)
        have ey_38 : y_38 = nI (i + 1) := by rw [ey_38]; first | rfl | (simp only [nk_set_0, nk_set_1, nk_set_2, nk_set_3, nk_set_4, nk_set_5, nk_set_6, nk_set_7, nk_set_12, nk_set_13, nk_set_18, pk_mul, nI_add]; done) | (simp only [nk_set_0, nk_set_1, nk_set_2, nk_set_3, nk_set_4, nk_set_5, nk_set_6, nk_set_7, nk_set_12, nk_set_13, nk_set_18, pk_mul, nI_add]; exact congrArg nI (by omega))
        subst ey_38
        refine va_sld hx hb hX hbl hbA hS (vp_in_nI (n := i + 1) (by omega) (by omega)) d_La_law_217 ?_
        refine lv_topi (fun y_39 ey_39 => ?_)
        rw [nI_clamp (by omega)] at ey_39
        subst ey_39
        refine lv_aload_n hx hb d_La_law_218 rfl (lv_at hl 0 rfl) ?_
        refine lv_iload_n hx hb d_La_law_219 rfl (lv_at hl 3 rfl) ?_
        refine lv_iconst (v := 2) hx hb d_La_law_220 (by decide) ?_
        refine lv_iadd hx hb d_La_law_221 ?_
        refine lv_topi (fun y_40 ey_40 => ?_)
        have ey_40 : y_40 = nI (i + 2) := by rw [ey_40]; first | rfl | (simp only [nk_set_0, nk_set_1, nk_set_2, nk_set_3, nk_set_4, nk_set_5, nk_set_6, nk_set_7, nk_set_12, nk_set_13, nk_set_18, pk_mul, nI_add]; done) | (simp only [nk_set_0, nk_set_1, nk_set_2, nk_set_3, nk_set_4, nk_set_5, nk_set_6, nk_set_7, nk_set_12, nk_set_13, nk_set_18, pk_mul, nI_add]; exact congrArg nI (by omega))
        subst ey_40
        refine va_sld hx hb hX hbl hbA hS (vp_in_nI (n := i + 2) (by omega) (by omega)) d_La_law_222 ?_
        refine lv_topi (fun y_41 ey_41 => ?_)
        rw [nI_clamp (by omega)] at ey_41
        subst ey_41
        refine lv_aload_n hx hb d_La_law_223 rfl (lv_at hl 0 rfl) ?_
        refine lv_iload_n hx hb d_La_law_224 rfl (lv_at hl 3 rfl) ?_
        refine lv_iconst (v := 3) hx hb d_La_law_225 (by decide) ?_
        refine lv_iadd hx hb d_La_law_226 ?_
        refine lv_topi (fun y_42 ey_42 => ?_)
        have ey_42 : y_42 = nI (i + 3) := by rw [ey_42]; first | rfl | (simp only [nk_set_0, nk_set_1, nk_set_2, nk_set_3, nk_set_4, nk_set_5, nk_set_6, nk_set_7, nk_set_12, nk_set_13, nk_set_18, pk_mul, nI_add]; done) | (simp only [nk_set_0, nk_set_1, nk_set_2, nk_set_3, nk_set_4, nk_set_5, nk_set_6, nk_set_7, nk_set_12, nk_set_13, nk_set_18, pk_mul, nI_add]; exact congrArg nI (by omega))
        subst ey_42
        refine va_sld hx hb hX hbl hbA hS (vp_in_nI (n := i + 3) (by omega) (by omega)) d_La_law_227 ?_
        refine lv_topi (fun y_43 ey_43 => ?_)
        rw [nI_clamp (by omega)] at ey_43
        subst ey_43
        refine lv_aload_n hx hb d_La_law_228 rfl (lv_at hl 0 rfl) ?_
        refine lv_iload_n hx hb d_La_law_229 rfl (lv_at hl 3 rfl) ?_
        refine lv_iconst (v := 4) hx hb d_La_law_230 (by decide) ?_
        refine lv_iadd hx hb d_La_law_231 ?_
        refine lv_topi (fun y_44 ey_44 => ?_)
        have ey_44 : y_44 = nI (i + 4) := by rw [ey_44]; first | rfl | (simp only [nk_set_0, nk_set_1, nk_set_2, nk_set_3, nk_set_4, nk_set_5, nk_set_6, nk_set_7, nk_set_12, nk_set_13, nk_set_18, pk_mul, nI_add]; done) | (simp only [nk_set_0, nk_set_1, nk_set_2, nk_set_3, nk_set_4, nk_set_5, nk_set_6, nk_set_7, nk_set_12, nk_set_13, nk_set_18, pk_mul, nI_add]; exact congrArg nI (by omega))
        subst ey_44
        refine va_sld hx hb hX hbl hbA hS (vp_in_nI (n := i + 4) (by omega) (by omega)) d_La_law_232 ?_
        refine lv_topi (fun y_45 ey_45 => ?_)
        rw [nI_clamp (by omega)] at ey_45
        subst ey_45
        have hPc := hP.sub (ws' := [(mo, .inr (3, [.int 0, .int (nI wn), .int (nI hn), .int fo, .ref mt, .ref mr, .int ma, .ref mx, .int mn, .ref mp, .ref mq, .int (nI ct)])), (mt, .inl (cJ, 18, .inr (.inl gif))), (mr, .inl (cJ, 120, .inr (.inl mrf))), (mx, .inl (cJ, 120, .inr (.inl mxf))), (mp, .inl (cJ, 324, .inr (.inl mpf))), (mq, .inl (cJ, 18, .inr (.inl mqf)))]) [13, 14, 15, 16, 17, 18] rfl
        have hDc := hD.sub (ws' := [(mo, .inr (3, [.int 0, .int (nI wn), .int (nI hn), .int fo, .ref mt, .ref mr, .int ma, .ref mx, .int mn, .ref mp, .ref mq, .int (nI ct)])), (mt, .inl (cJ, 18, .inr (.inl gif))), (mr, .inl (cJ, 120, .inr (.inl mrf))), (mx, .inl (cJ, 120, .inr (.inl mxf))), (mp, .inl (cJ, 324, .inr (.inl mpf))), (mq, .inl (cJ, 18, .inr (.inl mqf)))]) [13, 14, 15, 16, 17, 18] (by decide) rfl
        have hFc := va_free (wc := [(mo, .inr (3, [.int 0, .int (nI wn), .int (nI hn), .int fo, .ref mt, .ref mr, .int ma, .ref mx, .int mn, .ref mp, .ref mq, .int (nI ct)])), (mt, .inl (cJ, 18, .inr (.inl gif))), (mr, .inl (cJ, 120, .inr (.inl mrf))), (mx, .inl (cJ, 120, .inr (.inl mxf))), (mp, .inl (cJ, 324, .inr (.inl mpf))), (mq, .inl (cJ, 18, .inr (.inl mqf)))]) hD hS hA [13, 14, 15, 16, 17, 18] rfl
        refine va_calli (va_runV (As := [.int (xs (i + 1)), .int (xs (i + 2)), .int (xs (i + 3)), .int (xs (i + 4))]) (rest := [.int r_37]) ⟨hx, hb, hml, hown, hts⟩ (c_Mo_paint l dC dI cJ cI H.size mo (nI wn) (nI hn) fo mt mr ma mx mn mp mq ct gif mrf mxf mpf mqf (xs (i + 1)) (xs (i + 2)) (xs (i + 3)) (xs (i + 4))) (cwV 4 hts (gd_V wd_277 wd_278 wd_279 wd_37 wd_280) rfl rfl rfl (by decide +kernel) ⟨Nat.le_of_ble_eq_true rfl, Nat.le_of_ble_eq_true rfl⟩) ⟨fb_rw, va_recv hK hPc (ci := 3) (q0 := 0) rfl rfl, pre_rw hK hN hPc hDc⟩ rfl rfl hl.1 rfl (lv_room (Nat.le_of_ble_eq_true rfl)) d_La_law_233 ⟨Nat.le_of_ble_eq_true rfl, Nat.le_of_ble_eq_true rfl⟩) hS (fun q _ h => hFc q h) hFc (fun r_46 u t H locs ht hvm hw hB hz1 hk1 hS => ?_)
        obtain ⟨hP1, hD1⟩ := hB
        rw [ht] at hP1
        obtain ⟨hP, hD⟩ := va_join (wr := [(ob, .inr (0, [.int (nI wn), .int (nI hn), .int fo, .ref gi, .ref ke, .ref sp, .ref pi, .ref fa])), (gi, .inr (1, [.ref gia, .int 3])), (gia, .inl (cJ, 114, .inr (.inl (f_PC_paint_2 3 gif (xs (i + 1)) (xs (i + 2)) (xs (i + 3)) (xs (i + 4)))))), (ke, .inr (1, [.ref kea, .int ken])), (kea, .inl (cJ, 114, .inr (.inl kef))), (sp, .inr (1, [.ref spa, .int spn])), (spa, .inl (cJ, 114, .inr (.inl spf))), (pi, .inr (1, [.ref pia, .int (nI pn)])), (pia, .inl (cJ, 114, .inr (.inl pif))), (fa, .inr (2, [.ref fas, .ref fat, .ref faa, .int (nI ct)])), (fas, .inl (cI, 17, .inl faS)), (fat, .inl (cI, 17, .inl faT)), (faa, .inl (cI, 17, .inl faA))]) (w1 := [(mo, .inr (3, [.int 0, .int (nI wn), .int (nI hn), .int fo, .ref mt, .ref mr, .int ma, .ref mx, .int mn, .ref mp, .ref mq, .int (nI ct)])), (mt, .inl (cJ, 18, .inr (.inl (f_Mo_paint_1 gif (xs (i + 1)) (xs (i + 2)) (xs (i + 3)) (xs (i + 4)))))), (mr, .inl (cJ, 120, .inr (.inl mrf))), (mx, .inl (cJ, 120, .inr (.inl mxf))), (mp, .inl (cJ, 324, .inr (.inl mpf))), (mq, .inl (cJ, 18, .inr (.inl mqf)))]) hP hD [13, 14, 15, 16, 17, 18] [0, 1, 2, 3, 4, 5, 6, 7, 8, 9, 10, 11, 12] rfl rfl (by decide) (by decide) hk1 hFc hP1 hD1
        have er_46 := hw
        have er_46 : r_46 = f_Mo_paint_r (xs (i + 1)) (xs (i + 2)) (xs (i + 3)) (xs (i + 4)) := er_46
        have hP : va_P (dC, dI) cls4 [(ob, .inr (0, [.int (nI wn), .int (nI hn), .int fo, .ref gi, .ref ke, .ref sp, .ref pi, .ref fa])), (gi, .inr (1, [.ref gia, .int 3])), (gia, .inl (cJ, 114, .inr (.inl (f_PC_paint_2 3 gif (xs (i + 1)) (xs (i + 2)) (xs (i + 3)) (xs (i + 4)))))), (ke, .inr (1, [.ref kea, .int ken])), (kea, .inl (cJ, 114, .inr (.inl kef))), (sp, .inr (1, [.ref spa, .int spn])), (spa, .inl (cJ, 114, .inr (.inl spf))), (pi, .inr (1, [.ref pia, .int (nI pn)])), (pia, .inl (cJ, 114, .inr (.inl pif))), (fa, .inr (2, [.ref fas, .ref fat, .ref faa, .int (nI ct)])), (fas, .inl (cI, 17, .inl faS)), (fat, .inl (cI, 17, .inl faT)), (faa, .inl (cI, 17, .inl faA)), (mo, .inr (3, [.int 0, .int (nI wn), .int (nI hn), .int fo, .ref mt, .ref mr, .int ma, .ref mx, .int mn, .ref mp, .ref mq, .int (nI ct)])), (mt, .inl (cJ, 18, .inr (.inl (f_Mo_paint_1 gif (xs (i + 1)) (xs (i + 2)) (xs (i + 3)) (xs (i + 4)))))), (mr, .inl (cJ, 120, .inr (.inl mrf))), (mx, .inl (cJ, 120, .inr (.inl mxf))), (mp, .inl (cJ, 324, .inr (.inl mpf))), (mq, .inl (cJ, 18, .inr (.inl mqf)))] H := hP
        have hD : va_D A [(ob, .inr (0, [.int (nI wn), .int (nI hn), .int fo, .ref gi, .ref ke, .ref sp, .ref pi, .ref fa])), (gi, .inr (1, [.ref gia, .int 3])), (gia, .inl (cJ, 114, .inr (.inl (f_PC_paint_2 3 gif (xs (i + 1)) (xs (i + 2)) (xs (i + 3)) (xs (i + 4)))))), (ke, .inr (1, [.ref kea, .int ken])), (kea, .inl (cJ, 114, .inr (.inl kef))), (sp, .inr (1, [.ref spa, .int spn])), (spa, .inl (cJ, 114, .inr (.inl spf))), (pi, .inr (1, [.ref pia, .int (nI pn)])), (pia, .inl (cJ, 114, .inr (.inl pif))), (fa, .inr (2, [.ref fas, .ref fat, .ref faa, .int (nI ct)])), (fas, .inl (cI, 17, .inl faS)), (fat, .inl (cI, 17, .inl faT)), (faa, .inl (cI, 17, .inl faA)), (mo, .inr (3, [.int 0, .int (nI wn), .int (nI hn), .int fo, .ref mt, .ref mr, .int ma, .ref mx, .int mn, .ref mp, .ref mq, .int (nI ct)])), (mt, .inl (cJ, 18, .inr (.inl (f_Mo_paint_1 gif (xs (i + 1)) (xs (i + 2)) (xs (i + 3)) (xs (i + 4)))))), (mr, .inl (cJ, 120, .inr (.inl mrf))), (mx, .inl (cJ, 120, .inr (.inl mxf))), (mp, .inl (cJ, 324, .inr (.inl mpf))), (mq, .inl (cJ, 18, .inr (.inl mqf)))] := hD
        refine lv_icmp_eq (tgt := 541) hx hb d_La_law_236 (by decide) (fun c_47 => ?_) (fun c_47 => absurd (by rw [er_37, er_46]; exact (la_paints gif (xs (i + 1)) (xs (i + 2)) (xs (i + 3)) (xs (i + 4))).1) c_47)
        refine lv_iinc (v := (nI (i + 5))) (lv' := [(3, .int (nI (i + 5))), (0, .ref b), (1, .ref ob), (2, .ref mo)]) hx hb d_La_law_541 hl (k := 3) rfl (nI_add i 5) (by decide) rfl (fun ls hl => ?_)
        refine lv_goto (tgt := 38) hx hb d_La_law_544 (by decide) ?_
        rw [(la_paints gif (xs (i + 1)) (xs (i + 2)) (xs (i + 3)) (xs (i + 4))).2] at hP hD
        exact ih (i + 5) _ _ _ _ _ _ _ _ _ _ _ _ _ _ _ _ _ _ _ _ _ _ _ _ _ _ _ (by omega) (by omega) hfit (la_paintG hG (xs (i + 1)) (xs (i + 2)) (xs (i + 3)) (xs (i + 4))) hcl hmo _ _ hP hD hS ls (lv_sub hl [1, 2, 3, 0] rfl)
      · refine lv_tableIn (off := 189) (tgt := 241) hx hb d_La_law_52 (by decide) (by decide) (by decide) (by decide) ?_
        refine lv_aload_n hx hb d_La_law_241 rfl (lv_at hl 1 rfl) ?_
        refine lv_aload_n hx hb d_La_law_242 rfl (lv_at hl 0 rfl) ?_
        refine lv_iload_n hx hb d_La_law_243 rfl (lv_at hl 3 rfl) ?_
        refine lv_iconst (v := 1) hx hb d_La_law_244 (by decide) ?_
        refine lv_iadd hx hb d_La_law_245 ?_
        refine lv_topi (fun y_48 ey_48 => ?_)
        have ey_48 : y_48 = nI (i + 1) := by rw [ey_48]; first | rfl | (simp only [nk_set_0, nk_set_1, nk_set_2, nk_set_3, nk_set_4, nk_set_5, nk_set_6, nk_set_7, nk_set_12, nk_set_13, nk_set_18, pk_mul, nI_add]; done) | (simp only [nk_set_0, nk_set_1, nk_set_2, nk_set_3, nk_set_4, nk_set_5, nk_set_6, nk_set_7, nk_set_12, nk_set_13, nk_set_18, pk_mul, nI_add]; exact congrArg nI (by omega))
        subst ey_48
        refine va_sld hx hb hX hbl hbA hS (vp_in_nI (n := i + 1) (by omega) (by omega)) d_La_law_246 ?_
        refine lv_topi (fun y_49 ey_49 => ?_)
        rw [nI_clamp (by omega)] at ey_49
        subst ey_49
        refine lv_if_eq (tgt := 254) hx hb d_La_law_247 (by decide) (fun c_50 => ?_) (fun c_50 => ?_)
        · have c_50 : (xs (i + 1)) = 0 := c_50
          refine lv_iconst (v := 0) hx hb d_La_law_254 (by decide) ?_
          have hPc := hP.sub (ws' := [(ob, .inr (0, [.int (nI wn), .int (nI hn), .int fo, .ref gi, .ref ke, .ref sp, .ref pi, .ref fa])), (gi, .inr (1, [.ref gia, .int 3])), (gia, .inl (cJ, 114, .inr (.inl gif))), (ke, .inr (1, [.ref kea, .int ken])), (kea, .inl (cJ, 114, .inr (.inl kef))), (sp, .inr (1, [.ref spa, .int spn])), (spa, .inl (cJ, 114, .inr (.inl spf))), (pi, .inr (1, [.ref pia, .int (nI pn)])), (pia, .inl (cJ, 114, .inr (.inl pif))), (fa, .inr (2, [.ref fas, .ref fat, .ref faa, .int (nI ct)])), (fas, .inl (cI, 17, .inl faS)), (fat, .inl (cI, 17, .inl faT)), (faa, .inl (cI, 17, .inl faA))]) [0, 1, 2, 3, 4, 5, 6, 7, 8, 9, 10, 11, 12] rfl
          have hDc := hD.sub (ws' := [(ob, .inr (0, [.int (nI wn), .int (nI hn), .int fo, .ref gi, .ref ke, .ref sp, .ref pi, .ref fa])), (gi, .inr (1, [.ref gia, .int 3])), (gia, .inl (cJ, 114, .inr (.inl gif))), (ke, .inr (1, [.ref kea, .int ken])), (kea, .inl (cJ, 114, .inr (.inl kef))), (sp, .inr (1, [.ref spa, .int spn])), (spa, .inl (cJ, 114, .inr (.inl spf))), (pi, .inr (1, [.ref pia, .int (nI pn)])), (pia, .inl (cJ, 114, .inr (.inl pif))), (fa, .inr (2, [.ref fas, .ref fat, .ref faa, .int (nI ct)])), (fas, .inl (cI, 17, .inl faS)), (fat, .inl (cI, 17, .inl faT)), (faa, .inl (cI, 17, .inl faA))]) [0, 1, 2, 3, 4, 5, 6, 7, 8, 9, 10, 11, 12] (by decide) rfl
          have hFc := va_free (wc := [(ob, .inr (0, [.int (nI wn), .int (nI hn), .int fo, .ref gi, .ref ke, .ref sp, .ref pi, .ref fa])), (gi, .inr (1, [.ref gia, .int 3])), (gia, .inl (cJ, 114, .inr (.inl gif))), (ke, .inr (1, [.ref kea, .int ken])), (kea, .inl (cJ, 114, .inr (.inl kef))), (sp, .inr (1, [.ref spa, .int spn])), (spa, .inl (cJ, 114, .inr (.inl spf))), (pi, .inr (1, [.ref pia, .int (nI pn)])), (pia, .inl (cJ, 114, .inr (.inl pif))), (fa, .inr (2, [.ref fas, .ref fat, .ref faa, .int (nI ct)])), (fas, .inl (cI, 17, .inl faS)), (fat, .inl (cI, 17, .inl faT)), (faa, .inl (cI, 17, .inl faA))]) hD hS hA [0, 1, 2, 3, 4, 5, 6, 7, 8, 9, 10, 11, 12] rfl
          refine va_calli (va_runV (As := [.int 0]) (rest := []) ⟨hx, hb, hml, hown, hts⟩ (c_PC_cut l dC dI cJ cI H.size ob (nI wn) (nI hn) fo gi gia gif ke kea ken kef sp spa spn spf pi pia (nI pn) pif fa fas fat faa (nI ct) faS faT faA 0 hfit hG) (cwV 1 hts (gd_V wd_125 wd_126 wd_127 wd_33 wd_128) rfl rfl rfl (by decide +kernel) ⟨Nat.le_of_ble_eq_true rfl, Nat.le_of_ble_eq_true rfl⟩) ⟨fb_rw, va_recv hK hPc (ci := 0) (q0 := 0) rfl rfl, pre_rw hK hN hPc hDc⟩ rfl rfl hl.1 rfl (lv_room (Nat.le_of_ble_eq_true rfl)) d_La_law_255 ⟨Nat.le_of_ble_eq_true rfl, Nat.le_of_ble_eq_true rfl⟩) hS (fun q _ h => hFc q h) hFc (fun r_51 u t H locs ht hvm hw hB hz1 hk1 hS => ?_)
          obtain ⟨k1_52, k1a_53, s1_54, s1a_55, kv_56, kf_57, sv_58, sf_59, pf_60, fS_61, fT_62, fA_63, hP1, hD1, hrel_64⟩ := hB
          rw [ht] at hP1
          obtain ⟨hP, hD⟩ := va_join (wr := [(mo, .inr (3, [.int 0, .int (nI wn), .int (nI hn), .int fo, .ref mt, .ref mr, .int ma, .ref mx, .int mn, .ref mp, .ref mq, .int (nI ct)])), (mt, .inl (cJ, 18, .inr (.inl gif))), (mr, .inl (cJ, 120, .inr (.inl mrf))), (mx, .inl (cJ, 120, .inr (.inl mxf))), (mp, .inl (cJ, 324, .inr (.inl mpf))), (mq, .inl (cJ, 18, .inr (.inl mqf)))]) (w1 := [(ob, .inr (0, [.int (nI wn), .int (nI hn), .int fo, .ref gi, .ref k1_52, .ref s1_54, .ref pi, .ref fa])), (gi, .inr (1, [.ref gia, .int 3])), (gia, .inl (cJ, 114, .inr (.inl gif))), (k1_52, .inr (1, [.ref k1a_53, .int kv_56])), (k1a_53, .inl (cJ, 114, .inr (.inl kf_57))), (s1_54, .inr (1, [.ref s1a_55, .int sv_58])), (s1a_55, .inl (cJ, 114, .inr (.inl sf_59))), (pi, .inr (1, [.ref pia, .int (nI (pu_cutR fo (nI wn) (nI hn) gif).1)])), (pia, .inl (cJ, 114, .inr (.inl pf_60))), (fa, .inr (2, [.ref fas, .ref fat, .ref faa, .int (nI (pu_cutF (decide (¬ 0 = 0)) fo (nI wn) (nI hn) gif).1)])), (fas, .inl (cI, 17, .inl fS_61)), (fat, .inl (cI, 17, .inl fT_62)), (faa, .inl (cI, 17, .inl fA_63))]) hP hD [0, 1, 2, 3, 4, 5, 6, 7, 8, 9, 10, 11, 12] [13, 14, 15, 16, 17, 18] rfl rfl (by decide) (by decide) hk1 hFc hP1 hD1
          have er_51 := hw
          have er_51 : r_51 = nI (pu_cutF (decide (¬ 0 = 0)) fo (nI wn) (nI hn) gif).1 := er_51
          subst er_51
          have hP : va_P (dC, dI) cls4 [(ob, .inr (0, [.int (nI wn), .int (nI hn), .int fo, .ref gi, .ref k1_52, .ref s1_54, .ref pi, .ref fa])), (gi, .inr (1, [.ref gia, .int 3])), (gia, .inl (cJ, 114, .inr (.inl gif))), (k1_52, .inr (1, [.ref k1a_53, .int kv_56])), (k1a_53, .inl (cJ, 114, .inr (.inl kf_57))), (s1_54, .inr (1, [.ref s1a_55, .int sv_58])), (s1a_55, .inl (cJ, 114, .inr (.inl sf_59))), (pi, .inr (1, [.ref pia, .int (nI (pu_cutR fo (nI wn) (nI hn) gif).1)])), (pia, .inl (cJ, 114, .inr (.inl pf_60))), (fa, .inr (2, [.ref fas, .ref fat, .ref faa, .int (nI (pu_cutF (decide (¬ 0 = 0)) fo (nI wn) (nI hn) gif).1)])), (fas, .inl (cI, 17, .inl fS_61)), (fat, .inl (cI, 17, .inl fT_62)), (faa, .inl (cI, 17, .inl fA_63)), (mo, .inr (3, [.int 0, .int (nI wn), .int (nI hn), .int fo, .ref mt, .ref mr, .int ma, .ref mx, .int mn, .ref mp, .ref mq, .int (nI ct)])), (mt, .inl (cJ, 18, .inr (.inl gif))), (mr, .inl (cJ, 120, .inr (.inl mrf))), (mx, .inl (cJ, 120, .inr (.inl mxf))), (mp, .inl (cJ, 324, .inr (.inl mpf))), (mq, .inl (cJ, 18, .inr (.inl mqf)))] H := hP.sub [6, 7, 8, 9, 10, 11, 12, 13, 14, 15, 16, 17, 18, 0, 1, 2, 3, 4, 5] rfl
          have hD : va_D A [(ob, .inr (0, [.int (nI wn), .int (nI hn), .int fo, .ref gi, .ref k1_52, .ref s1_54, .ref pi, .ref fa])), (gi, .inr (1, [.ref gia, .int 3])), (gia, .inl (cJ, 114, .inr (.inl gif))), (k1_52, .inr (1, [.ref k1a_53, .int kv_56])), (k1a_53, .inl (cJ, 114, .inr (.inl kf_57))), (s1_54, .inr (1, [.ref s1a_55, .int sv_58])), (s1a_55, .inl (cJ, 114, .inr (.inl sf_59))), (pi, .inr (1, [.ref pia, .int (nI (pu_cutR fo (nI wn) (nI hn) gif).1)])), (pia, .inl (cJ, 114, .inr (.inl pf_60))), (fa, .inr (2, [.ref fas, .ref fat, .ref faa, .int (nI (pu_cutF (decide (¬ 0 = 0)) fo (nI wn) (nI hn) gif).1)])), (fas, .inl (cI, 17, .inl fS_61)), (fat, .inl (cI, 17, .inl fT_62)), (faa, .inl (cI, 17, .inl fA_63)), (mo, .inr (3, [.int 0, .int (nI wn), .int (nI hn), .int fo, .ref mt, .ref mr, .int ma, .ref mx, .int mn, .ref mp, .ref mq, .int (nI ct)])), (mt, .inl (cJ, 18, .inr (.inl gif))), (mr, .inl (cJ, 120, .inr (.inl mrf))), (mx, .inl (cJ, 120, .inr (.inl mxf))), (mp, .inl (cJ, 324, .inr (.inl mpf))), (mq, .inl (cJ, 18, .inr (.inl mqf)))] := hD.sub [6, 7, 8, 9, 10, 11, 12, 13, 14, 15, 16, 17, 18, 0, 1, 2, 3, 4, 5] (by decide) rfl
          refine lv_aload_n hx hb d_La_law_258 rfl (lv_at hl 2 rfl) ?_
          refine lv_aload_n hx hb d_La_law_259 rfl (lv_at hl 0 rfl) ?_
          refine lv_iload_n hx hb d_La_law_260 rfl (lv_at hl 3 rfl) ?_
          refine lv_iconst (v := 1) hx hb d_La_law_261 (by decide) ?_
          refine lv_iadd hx hb d_La_law_262 ?_
          refine lv_topi (fun y_65 ey_65 => ?_)
          have ey_65 : y_65 = nI (i + 1) := by rw [ey_65]; first | rfl | (simp only [nk_set_0, nk_set_1, nk_set_2, nk_set_3, nk_set_4, nk_set_5, nk_set_6, nk_set_7, nk_set_12, nk_set_13, nk_set_18, pk_mul, nI_add]; done) | (simp only [nk_set_0, nk_set_1, nk_set_2, nk_set_3, nk_set_4, nk_set_5, nk_set_6, nk_set_7, nk_set_12, nk_set_13, nk_set_18, pk_mul, nI_add]; exact congrArg nI (by omega))
          subst ey_65
          refine va_sld hx hb hX hbl hbA hS (vp_in_nI (n := i + 1) (by omega) (by omega)) d_La_law_263 ?_
          refine lv_topi (fun y_66 ey_66 => ?_)
          rw [nI_clamp (by omega)] at ey_66
          subst ey_66
          refine lv_if_eq (tgt := 271) hx hb d_La_law_264 (by decide) (fun c_67 => ?_) (fun c_67 => absurd (c_50) c_67)
          refine lv_iconst (v := 0) hx hb d_La_law_271 (by decide) ?_
          have hPc := hP.sub (ws' := [(mo, .inr (3, [.int 0, .int (nI wn), .int (nI hn), .int fo, .ref mt, .ref mr, .int ma, .ref mx, .int mn, .ref mp, .ref mq, .int (nI ct)])), (mt, .inl (cJ, 18, .inr (.inl gif))), (mr, .inl (cJ, 120, .inr (.inl mrf))), (mx, .inl (cJ, 120, .inr (.inl mxf))), (mp, .inl (cJ, 324, .inr (.inl mpf))), (mq, .inl (cJ, 18, .inr (.inl mqf)))]) [13, 14, 15, 16, 17, 18] rfl
          have hDc := hD.sub (ws' := [(mo, .inr (3, [.int 0, .int (nI wn), .int (nI hn), .int fo, .ref mt, .ref mr, .int ma, .ref mx, .int mn, .ref mp, .ref mq, .int (nI ct)])), (mt, .inl (cJ, 18, .inr (.inl gif))), (mr, .inl (cJ, 120, .inr (.inl mrf))), (mx, .inl (cJ, 120, .inr (.inl mxf))), (mp, .inl (cJ, 324, .inr (.inl mpf))), (mq, .inl (cJ, 18, .inr (.inl mqf)))]) [13, 14, 15, 16, 17, 18] (by decide) rfl
          have hFc := va_free (wc := [(mo, .inr (3, [.int 0, .int (nI wn), .int (nI hn), .int fo, .ref mt, .ref mr, .int ma, .ref mx, .int mn, .ref mp, .ref mq, .int (nI ct)])), (mt, .inl (cJ, 18, .inr (.inl gif))), (mr, .inl (cJ, 120, .inr (.inl mrf))), (mx, .inl (cJ, 120, .inr (.inl mxf))), (mp, .inl (cJ, 324, .inr (.inl mpf))), (mq, .inl (cJ, 18, .inr (.inl mqf)))]) hD hS hA [13, 14, 15, 16, 17, 18] rfl
          refine va_calli (va_runV (As := [.int 0]) (rest := [.int (nI ((pu_cutF (decide (¬ 0 = 0)) fo (nI wn) (nI hn) gif).1))]) ⟨hx, hb, hml, hown, hts⟩ (c_Mo_cut l dC dI cJ cI H.size mo (nI wn) (nI hn) fo mt mr ma mx mn mp mq ct gif mrf mxf mpf mqf 0 hfit hG) (cwV 1 hts (gd_V wd_284 wd_285 wd_286 wd_37 wd_287) rfl rfl rfl (by decide +kernel) ⟨Nat.le_of_ble_eq_true rfl, Nat.le_of_ble_eq_true rfl⟩) ⟨fb_rw, va_recv hK hPc (ci := 3) (q0 := 0) rfl rfl, pre_rw hK hN hPc hDc⟩ rfl rfl hl.1 rfl (lv_room (Nat.le_of_ble_eq_true rfl)) d_La_law_272 ⟨Nat.le_of_ble_eq_true rfl, Nat.le_of_ble_eq_true rfl⟩) hS (fun q _ h => hFc q h) hFc (fun r_68 u t H locs ht hvm hw hB hz1 hk1 hS => ?_)
          obtain ⟨r1_69, x1_70, kv_71, nv_72, rf_73, xf_74, pf_75, qf_76, hP1, hD1, hrel_77⟩ := hB
          rw [ht] at hP1
          obtain ⟨hP, hD⟩ := va_join (wr := [(ob, .inr (0, [.int (nI wn), .int (nI hn), .int fo, .ref gi, .ref k1_52, .ref s1_54, .ref pi, .ref fa])), (gi, .inr (1, [.ref gia, .int 3])), (gia, .inl (cJ, 114, .inr (.inl gif))), (k1_52, .inr (1, [.ref k1a_53, .int kv_56])), (k1a_53, .inl (cJ, 114, .inr (.inl kf_57))), (s1_54, .inr (1, [.ref s1a_55, .int sv_58])), (s1a_55, .inl (cJ, 114, .inr (.inl sf_59))), (pi, .inr (1, [.ref pia, .int (nI (pu_cutR fo (nI wn) (nI hn) gif).1)])), (pia, .inl (cJ, 114, .inr (.inl pf_60))), (fa, .inr (2, [.ref fas, .ref fat, .ref faa, .int (nI (pu_cutF (decide (¬ 0 = 0)) fo (nI wn) (nI hn) gif).1)])), (fas, .inl (cI, 17, .inl fS_61)), (fat, .inl (cI, 17, .inl fT_62)), (faa, .inl (cI, 17, .inl fA_63))]) (w1 := [(mo, .inr (3, [.int 0, .int (nI wn), .int (nI hn), .int fo, .ref mt, .ref r1_69, .int kv_71, .ref x1_70, .int nv_72, .ref mp, .ref mq, .int (nI (pu_cutF (decide (¬ 0 = 0)) fo (nI wn) (nI hn) gif).1)])), (mt, .inl (cJ, 18, .inr (.inl gif))), (r1_69, .inl (cJ, 120, .inr (.inl rf_73))), (x1_70, .inl (cJ, 120, .inr (.inl xf_74))), (mp, .inl (cJ, 324, .inr (.inl pf_75))), (mq, .inl (cJ, 18, .inr (.inl qf_76)))]) hP hD [13, 14, 15, 16, 17, 18] [0, 1, 2, 3, 4, 5, 6, 7, 8, 9, 10, 11, 12] rfl rfl (by decide) (by decide) hk1 hFc hP1 hD1
          have er_68 := hw
          have er_68 : r_68 = nI (pu_cutF (decide (¬ 0 = 0)) fo (nI wn) (nI hn) gif).1 := er_68
          subst er_68
          have hP : va_P (dC, dI) cls4 [(ob, .inr (0, [.int (nI wn), .int (nI hn), .int fo, .ref gi, .ref k1_52, .ref s1_54, .ref pi, .ref fa])), (gi, .inr (1, [.ref gia, .int 3])), (gia, .inl (cJ, 114, .inr (.inl gif))), (k1_52, .inr (1, [.ref k1a_53, .int kv_56])), (k1a_53, .inl (cJ, 114, .inr (.inl kf_57))), (s1_54, .inr (1, [.ref s1a_55, .int sv_58])), (s1a_55, .inl (cJ, 114, .inr (.inl sf_59))), (pi, .inr (1, [.ref pia, .int (nI (pu_cutR fo (nI wn) (nI hn) gif).1)])), (pia, .inl (cJ, 114, .inr (.inl pf_60))), (fa, .inr (2, [.ref fas, .ref fat, .ref faa, .int (nI (pu_cutF (decide (¬ 0 = 0)) fo (nI wn) (nI hn) gif).1)])), (fas, .inl (cI, 17, .inl fS_61)), (fat, .inl (cI, 17, .inl fT_62)), (faa, .inl (cI, 17, .inl fA_63)), (mo, .inr (3, [.int 0, .int (nI wn), .int (nI hn), .int fo, .ref mt, .ref r1_69, .int kv_71, .ref x1_70, .int nv_72, .ref mp, .ref mq, .int (nI (pu_cutF (decide (¬ 0 = 0)) fo (nI wn) (nI hn) gif).1)])), (mt, .inl (cJ, 18, .inr (.inl gif))), (r1_69, .inl (cJ, 120, .inr (.inl rf_73))), (x1_70, .inl (cJ, 120, .inr (.inl xf_74))), (mp, .inl (cJ, 324, .inr (.inl pf_75))), (mq, .inl (cJ, 18, .inr (.inl qf_76)))] H := hP
          have hD : va_D A [(ob, .inr (0, [.int (nI wn), .int (nI hn), .int fo, .ref gi, .ref k1_52, .ref s1_54, .ref pi, .ref fa])), (gi, .inr (1, [.ref gia, .int 3])), (gia, .inl (cJ, 114, .inr (.inl gif))), (k1_52, .inr (1, [.ref k1a_53, .int kv_56])), (k1a_53, .inl (cJ, 114, .inr (.inl kf_57))), (s1_54, .inr (1, [.ref s1a_55, .int sv_58])), (s1a_55, .inl (cJ, 114, .inr (.inl sf_59))), (pi, .inr (1, [.ref pia, .int (nI (pu_cutR fo (nI wn) (nI hn) gif).1)])), (pia, .inl (cJ, 114, .inr (.inl pf_60))), (fa, .inr (2, [.ref fas, .ref fat, .ref faa, .int (nI (pu_cutF (decide (¬ 0 = 0)) fo (nI wn) (nI hn) gif).1)])), (fas, .inl (cI, 17, .inl fS_61)), (fat, .inl (cI, 17, .inl fT_62)), (faa, .inl (cI, 17, .inl fA_63)), (mo, .inr (3, [.int 0, .int (nI wn), .int (nI hn), .int fo, .ref mt, .ref r1_69, .int kv_71, .ref x1_70, .int nv_72, .ref mp, .ref mq, .int (nI (pu_cutF (decide (¬ 0 = 0)) fo (nI wn) (nI hn) gif).1)])), (mt, .inl (cJ, 18, .inr (.inl gif))), (r1_69, .inl (cJ, 120, .inr (.inl rf_73))), (x1_70, .inl (cJ, 120, .inr (.inl xf_74))), (mp, .inl (cJ, 324, .inr (.inl pf_75))), (mq, .inl (cJ, 18, .inr (.inl qf_76)))] := hD
          refine lv_icmp_eq (tgt := 541) hx hb d_La_law_275 (by decide) (fun c_78 => ?_) (fun c_78 => absurd (rfl) c_78)
          refine lv_iinc (v := (nI (i + 5))) (lv' := [(3, .int (nI (i + 5))), (0, .ref b), (1, .ref ob), (2, .ref mo)]) hx hb d_La_law_541 hl (k := 3) rfl (nI_add i 5) (by decide) rfl (fun ls hl => ?_)
          refine lv_goto (tgt := 38) hx hb d_La_law_544 (by decide) ?_
          exact ih (i + 5) _ _ _ _ _ _ _ _ _ _ _ _ _ _ _ _ _ _ _ _ _ _ _ _ _ _ _ (by omega) (by omega) hfit hG hrel_64 hrel_77 _ _ hP hD hS ls (lv_sub hl [1, 2, 3, 0] rfl)
        · have c_50 : ¬ ((xs (i + 1)) = 0) := c_50
          refine lv_iconst (v := 1) hx hb d_La_law_250 (by decide) ?_
          refine lv_goto (tgt := 255) hx hb d_La_law_251 (by decide) ?_
          have hPc := hP.sub (ws' := [(ob, .inr (0, [.int (nI wn), .int (nI hn), .int fo, .ref gi, .ref ke, .ref sp, .ref pi, .ref fa])), (gi, .inr (1, [.ref gia, .int 3])), (gia, .inl (cJ, 114, .inr (.inl gif))), (ke, .inr (1, [.ref kea, .int ken])), (kea, .inl (cJ, 114, .inr (.inl kef))), (sp, .inr (1, [.ref spa, .int spn])), (spa, .inl (cJ, 114, .inr (.inl spf))), (pi, .inr (1, [.ref pia, .int (nI pn)])), (pia, .inl (cJ, 114, .inr (.inl pif))), (fa, .inr (2, [.ref fas, .ref fat, .ref faa, .int (nI ct)])), (fas, .inl (cI, 17, .inl faS)), (fat, .inl (cI, 17, .inl faT)), (faa, .inl (cI, 17, .inl faA))]) [0, 1, 2, 3, 4, 5, 6, 7, 8, 9, 10, 11, 12] rfl
          have hDc := hD.sub (ws' := [(ob, .inr (0, [.int (nI wn), .int (nI hn), .int fo, .ref gi, .ref ke, .ref sp, .ref pi, .ref fa])), (gi, .inr (1, [.ref gia, .int 3])), (gia, .inl (cJ, 114, .inr (.inl gif))), (ke, .inr (1, [.ref kea, .int ken])), (kea, .inl (cJ, 114, .inr (.inl kef))), (sp, .inr (1, [.ref spa, .int spn])), (spa, .inl (cJ, 114, .inr (.inl spf))), (pi, .inr (1, [.ref pia, .int (nI pn)])), (pia, .inl (cJ, 114, .inr (.inl pif))), (fa, .inr (2, [.ref fas, .ref fat, .ref faa, .int (nI ct)])), (fas, .inl (cI, 17, .inl faS)), (fat, .inl (cI, 17, .inl faT)), (faa, .inl (cI, 17, .inl faA))]) [0, 1, 2, 3, 4, 5, 6, 7, 8, 9, 10, 11, 12] (by decide) rfl
          have hFc := va_free (wc := [(ob, .inr (0, [.int (nI wn), .int (nI hn), .int fo, .ref gi, .ref ke, .ref sp, .ref pi, .ref fa])), (gi, .inr (1, [.ref gia, .int 3])), (gia, .inl (cJ, 114, .inr (.inl gif))), (ke, .inr (1, [.ref kea, .int ken])), (kea, .inl (cJ, 114, .inr (.inl kef))), (sp, .inr (1, [.ref spa, .int spn])), (spa, .inl (cJ, 114, .inr (.inl spf))), (pi, .inr (1, [.ref pia, .int (nI pn)])), (pia, .inl (cJ, 114, .inr (.inl pif))), (fa, .inr (2, [.ref fas, .ref fat, .ref faa, .int (nI ct)])), (fas, .inl (cI, 17, .inl faS)), (fat, .inl (cI, 17, .inl faT)), (faa, .inl (cI, 17, .inl faA))]) hD hS hA [0, 1, 2, 3, 4, 5, 6, 7, 8, 9, 10, 11, 12] rfl
          refine va_calli (va_runV (As := [.int 1]) (rest := []) ⟨hx, hb, hml, hown, hts⟩ (c_PC_cut l dC dI cJ cI H.size ob (nI wn) (nI hn) fo gi gia gif ke kea ken kef sp spa spn spf pi pia (nI pn) pif fa fas fat faa (nI ct) faS faT faA 1 hfit hG) (cwV 1 hts (gd_V wd_125 wd_126 wd_127 wd_33 wd_128) rfl rfl rfl (by decide +kernel) ⟨Nat.le_of_ble_eq_true rfl, Nat.le_of_ble_eq_true rfl⟩) ⟨fb_rw, va_recv hK hPc (ci := 0) (q0 := 0) rfl rfl, pre_rw hK hN hPc hDc⟩ rfl rfl hl.1 rfl (lv_room (Nat.le_of_ble_eq_true rfl)) d_La_law_255 ⟨Nat.le_of_ble_eq_true rfl, Nat.le_of_ble_eq_true rfl⟩) hS (fun q _ h => hFc q h) hFc (fun r_79 u t H locs ht hvm hw hB hz1 hk1 hS => ?_)
          obtain ⟨k1_80, k1a_81, s1_82, s1a_83, kv_84, kf_85, sv_86, sf_87, pf_88, fS_89, fT_90, fA_91, hP1, hD1, hrel_92⟩ := hB
          rw [ht] at hP1
          obtain ⟨hP, hD⟩ := va_join (wr := [(mo, .inr (3, [.int 0, .int (nI wn), .int (nI hn), .int fo, .ref mt, .ref mr, .int ma, .ref mx, .int mn, .ref mp, .ref mq, .int (nI ct)])), (mt, .inl (cJ, 18, .inr (.inl gif))), (mr, .inl (cJ, 120, .inr (.inl mrf))), (mx, .inl (cJ, 120, .inr (.inl mxf))), (mp, .inl (cJ, 324, .inr (.inl mpf))), (mq, .inl (cJ, 18, .inr (.inl mqf)))]) (w1 := [(ob, .inr (0, [.int (nI wn), .int (nI hn), .int fo, .ref gi, .ref k1_80, .ref s1_82, .ref pi, .ref fa])), (gi, .inr (1, [.ref gia, .int 3])), (gia, .inl (cJ, 114, .inr (.inl gif))), (k1_80, .inr (1, [.ref k1a_81, .int kv_84])), (k1a_81, .inl (cJ, 114, .inr (.inl kf_85))), (s1_82, .inr (1, [.ref s1a_83, .int sv_86])), (s1a_83, .inl (cJ, 114, .inr (.inl sf_87))), (pi, .inr (1, [.ref pia, .int (nI (pu_cutR fo (nI wn) (nI hn) gif).1)])), (pia, .inl (cJ, 114, .inr (.inl pf_88))), (fa, .inr (2, [.ref fas, .ref fat, .ref faa, .int (nI (pu_cutF (decide (¬ 1 = 0)) fo (nI wn) (nI hn) gif).1)])), (fas, .inl (cI, 17, .inl fS_89)), (fat, .inl (cI, 17, .inl fT_90)), (faa, .inl (cI, 17, .inl fA_91))]) hP hD [0, 1, 2, 3, 4, 5, 6, 7, 8, 9, 10, 11, 12] [13, 14, 15, 16, 17, 18] rfl rfl (by decide) (by decide) hk1 hFc hP1 hD1
          have er_79 := hw
          have er_79 : r_79 = nI (pu_cutF (decide (¬ 1 = 0)) fo (nI wn) (nI hn) gif).1 := er_79
          subst er_79
          have hP : va_P (dC, dI) cls4 [(ob, .inr (0, [.int (nI wn), .int (nI hn), .int fo, .ref gi, .ref k1_80, .ref s1_82, .ref pi, .ref fa])), (gi, .inr (1, [.ref gia, .int 3])), (gia, .inl (cJ, 114, .inr (.inl gif))), (k1_80, .inr (1, [.ref k1a_81, .int kv_84])), (k1a_81, .inl (cJ, 114, .inr (.inl kf_85))), (s1_82, .inr (1, [.ref s1a_83, .int sv_86])), (s1a_83, .inl (cJ, 114, .inr (.inl sf_87))), (pi, .inr (1, [.ref pia, .int (nI (pu_cutR fo (nI wn) (nI hn) gif).1)])), (pia, .inl (cJ, 114, .inr (.inl pf_88))), (fa, .inr (2, [.ref fas, .ref fat, .ref faa, .int (nI (pu_cutF (decide (¬ 1 = 0)) fo (nI wn) (nI hn) gif).1)])), (fas, .inl (cI, 17, .inl fS_89)), (fat, .inl (cI, 17, .inl fT_90)), (faa, .inl (cI, 17, .inl fA_91)), (mo, .inr (3, [.int 0, .int (nI wn), .int (nI hn), .int fo, .ref mt, .ref mr, .int ma, .ref mx, .int mn, .ref mp, .ref mq, .int (nI ct)])), (mt, .inl (cJ, 18, .inr (.inl gif))), (mr, .inl (cJ, 120, .inr (.inl mrf))), (mx, .inl (cJ, 120, .inr (.inl mxf))), (mp, .inl (cJ, 324, .inr (.inl mpf))), (mq, .inl (cJ, 18, .inr (.inl mqf)))] H := hP.sub [6, 7, 8, 9, 10, 11, 12, 13, 14, 15, 16, 17, 18, 0, 1, 2, 3, 4, 5] rfl
          have hD : va_D A [(ob, .inr (0, [.int (nI wn), .int (nI hn), .int fo, .ref gi, .ref k1_80, .ref s1_82, .ref pi, .ref fa])), (gi, .inr (1, [.ref gia, .int 3])), (gia, .inl (cJ, 114, .inr (.inl gif))), (k1_80, .inr (1, [.ref k1a_81, .int kv_84])), (k1a_81, .inl (cJ, 114, .inr (.inl kf_85))), (s1_82, .inr (1, [.ref s1a_83, .int sv_86])), (s1a_83, .inl (cJ, 114, .inr (.inl sf_87))), (pi, .inr (1, [.ref pia, .int (nI (pu_cutR fo (nI wn) (nI hn) gif).1)])), (pia, .inl (cJ, 114, .inr (.inl pf_88))), (fa, .inr (2, [.ref fas, .ref fat, .ref faa, .int (nI (pu_cutF (decide (¬ 1 = 0)) fo (nI wn) (nI hn) gif).1)])), (fas, .inl (cI, 17, .inl fS_89)), (fat, .inl (cI, 17, .inl fT_90)), (faa, .inl (cI, 17, .inl fA_91)), (mo, .inr (3, [.int 0, .int (nI wn), .int (nI hn), .int fo, .ref mt, .ref mr, .int ma, .ref mx, .int mn, .ref mp, .ref mq, .int (nI ct)])), (mt, .inl (cJ, 18, .inr (.inl gif))), (mr, .inl (cJ, 120, .inr (.inl mrf))), (mx, .inl (cJ, 120, .inr (.inl mxf))), (mp, .inl (cJ, 324, .inr (.inl mpf))), (mq, .inl (cJ, 18, .inr (.inl mqf)))] := hD.sub [6, 7, 8, 9, 10, 11, 12, 13, 14, 15, 16, 17, 18, 0, 1, 2, 3, 4, 5] (by decide) rfl
          refine lv_aload_n hx hb d_La_law_258 rfl (lv_at hl 2 rfl) ?_
          refine lv_aload_n hx hb d_La_law_259 rfl (lv_at hl 0 rfl) ?_
          refine lv_iload_n hx hb d_La_law_260 rfl (lv_at hl 3 rfl) ?_
          refine lv_iconst (v := 1) hx hb d_La_law_261 (by decide) ?_
          refine lv_iadd hx hb d_La_law_262 ?_
          refine lv_topi (fun y_93 ey_93 => ?_)
          have ey_93 : y_93 = nI (i + 1) := by rw [ey_93]; first | rfl | (simp only [nk_set_0, nk_set_1, nk_set_2, nk_set_3, nk_set_4, nk_set_5, nk_set_6, nk_set_7, nk_set_12, nk_set_13, nk_set_18, pk_mul, nI_add]; done) | (simp only [nk_set_0, nk_set_1, nk_set_2, nk_set_3, nk_set_4, nk_set_5, nk_set_6, nk_set_7, nk_set_12, nk_set_13, nk_set_18, pk_mul, nI_add]; exact congrArg nI (by omega))
          subst ey_93
          refine va_sld hx hb hX hbl hbA hS (vp_in_nI (n := i + 1) (by omega) (by omega)) d_La_law_263 ?_
          refine lv_topi (fun y_94 ey_94 => ?_)
          rw [nI_clamp (by omega)] at ey_94
          subst ey_94
          refine lv_if_eq (tgt := 271) hx hb d_La_law_264 (by decide) (fun c_95 => absurd c_95 (c_50)) (fun c_95 => ?_)
          refine lv_iconst (v := 1) hx hb d_La_law_267 (by decide) ?_
          refine lv_goto (tgt := 272) hx hb d_La_law_268 (by decide) ?_
          have hPc := hP.sub (ws' := [(mo, .inr (3, [.int 0, .int (nI wn), .int (nI hn), .int fo, .ref mt, .ref mr, .int ma, .ref mx, .int mn, .ref mp, .ref mq, .int (nI ct)])), (mt, .inl (cJ, 18, .inr (.inl gif))), (mr, .inl (cJ, 120, .inr (.inl mrf))), (mx, .inl (cJ, 120, .inr (.inl mxf))), (mp, .inl (cJ, 324, .inr (.inl mpf))), (mq, .inl (cJ, 18, .inr (.inl mqf)))]) [13, 14, 15, 16, 17, 18] rfl
          have hDc := hD.sub (ws' := [(mo, .inr (3, [.int 0, .int (nI wn), .int (nI hn), .int fo, .ref mt, .ref mr, .int ma, .ref mx, .int mn, .ref mp, .ref mq, .int (nI ct)])), (mt, .inl (cJ, 18, .inr (.inl gif))), (mr, .inl (cJ, 120, .inr (.inl mrf))), (mx, .inl (cJ, 120, .inr (.inl mxf))), (mp, .inl (cJ, 324, .inr (.inl mpf))), (mq, .inl (cJ, 18, .inr (.inl mqf)))]) [13, 14, 15, 16, 17, 18] (by decide) rfl
          have hFc := va_free (wc := [(mo, .inr (3, [.int 0, .int (nI wn), .int (nI hn), .int fo, .ref mt, .ref mr, .int ma, .ref mx, .int mn, .ref mp, .ref mq, .int (nI ct)])), (mt, .inl (cJ, 18, .inr (.inl gif))), (mr, .inl (cJ, 120, .inr (.inl mrf))), (mx, .inl (cJ, 120, .inr (.inl mxf))), (mp, .inl (cJ, 324, .inr (.inl mpf))), (mq, .inl (cJ, 18, .inr (.inl mqf)))]) hD hS hA [13, 14, 15, 16, 17, 18] rfl
          refine va_calli (va_runV (As := [.int 1]) (rest := [.int (nI ((pu_cutF (decide (¬ 1 = 0)) fo (nI wn) (nI hn) gif).1))]) ⟨hx, hb, hml, hown, hts⟩ (c_Mo_cut l dC dI cJ cI H.size mo (nI wn) (nI hn) fo mt mr ma mx mn mp mq ct gif mrf mxf mpf mqf 1 hfit hG) (cwV 1 hts (gd_V wd_284 wd_285 wd_286 wd_37 wd_287) rfl rfl rfl (by decide +kernel) ⟨Nat.le_of_ble_eq_true rfl, Nat.le_of_ble_eq_true rfl⟩) ⟨fb_rw, va_recv hK hPc (ci := 3) (q0 := 0) rfl rfl, pre_rw hK hN hPc hDc⟩ rfl rfl hl.1 rfl (lv_room (Nat.le_of_ble_eq_true rfl)) d_La_law_272 ⟨Nat.le_of_ble_eq_true rfl, Nat.le_of_ble_eq_true rfl⟩) hS (fun q _ h => hFc q h) hFc (fun r_96 u t H locs ht hvm hw hB hz1 hk1 hS => ?_)
          obtain ⟨r1_97, x1_98, kv_99, nv_100, rf_101, xf_102, pf_103, qf_104, hP1, hD1, hrel_105⟩ := hB
          rw [ht] at hP1
          obtain ⟨hP, hD⟩ := va_join (wr := [(ob, .inr (0, [.int (nI wn), .int (nI hn), .int fo, .ref gi, .ref k1_80, .ref s1_82, .ref pi, .ref fa])), (gi, .inr (1, [.ref gia, .int 3])), (gia, .inl (cJ, 114, .inr (.inl gif))), (k1_80, .inr (1, [.ref k1a_81, .int kv_84])), (k1a_81, .inl (cJ, 114, .inr (.inl kf_85))), (s1_82, .inr (1, [.ref s1a_83, .int sv_86])), (s1a_83, .inl (cJ, 114, .inr (.inl sf_87))), (pi, .inr (1, [.ref pia, .int (nI (pu_cutR fo (nI wn) (nI hn) gif).1)])), (pia, .inl (cJ, 114, .inr (.inl pf_88))), (fa, .inr (2, [.ref fas, .ref fat, .ref faa, .int (nI (pu_cutF (decide (¬ 1 = 0)) fo (nI wn) (nI hn) gif).1)])), (fas, .inl (cI, 17, .inl fS_89)), (fat, .inl (cI, 17, .inl fT_90)), (faa, .inl (cI, 17, .inl fA_91))]) (w1 := [(mo, .inr (3, [.int 0, .int (nI wn), .int (nI hn), .int fo, .ref mt, .ref r1_97, .int kv_99, .ref x1_98, .int nv_100, .ref mp, .ref mq, .int (nI (pu_cutF (decide (¬ 1 = 0)) fo (nI wn) (nI hn) gif).1)])), (mt, .inl (cJ, 18, .inr (.inl gif))), (r1_97, .inl (cJ, 120, .inr (.inl rf_101))), (x1_98, .inl (cJ, 120, .inr (.inl xf_102))), (mp, .inl (cJ, 324, .inr (.inl pf_103))), (mq, .inl (cJ, 18, .inr (.inl qf_104)))]) hP hD [13, 14, 15, 16, 17, 18] [0, 1, 2, 3, 4, 5, 6, 7, 8, 9, 10, 11, 12] rfl rfl (by decide) (by decide) hk1 hFc hP1 hD1
          have er_96 := hw
          have er_96 : r_96 = nI (pu_cutF (decide (¬ 1 = 0)) fo (nI wn) (nI hn) gif).1 := er_96
          subst er_96
          have hP : va_P (dC, dI) cls4 [(ob, .inr (0, [.int (nI wn), .int (nI hn), .int fo, .ref gi, .ref k1_80, .ref s1_82, .ref pi, .ref fa])), (gi, .inr (1, [.ref gia, .int 3])), (gia, .inl (cJ, 114, .inr (.inl gif))), (k1_80, .inr (1, [.ref k1a_81, .int kv_84])), (k1a_81, .inl (cJ, 114, .inr (.inl kf_85))), (s1_82, .inr (1, [.ref s1a_83, .int sv_86])), (s1a_83, .inl (cJ, 114, .inr (.inl sf_87))), (pi, .inr (1, [.ref pia, .int (nI (pu_cutR fo (nI wn) (nI hn) gif).1)])), (pia, .inl (cJ, 114, .inr (.inl pf_88))), (fa, .inr (2, [.ref fas, .ref fat, .ref faa, .int (nI (pu_cutF (decide (¬ 1 = 0)) fo (nI wn) (nI hn) gif).1)])), (fas, .inl (cI, 17, .inl fS_89)), (fat, .inl (cI, 17, .inl fT_90)), (faa, .inl (cI, 17, .inl fA_91)), (mo, .inr (3, [.int 0, .int (nI wn), .int (nI hn), .int fo, .ref mt, .ref r1_97, .int kv_99, .ref x1_98, .int nv_100, .ref mp, .ref mq, .int (nI (pu_cutF (decide (¬ 1 = 0)) fo (nI wn) (nI hn) gif).1)])), (mt, .inl (cJ, 18, .inr (.inl gif))), (r1_97, .inl (cJ, 120, .inr (.inl rf_101))), (x1_98, .inl (cJ, 120, .inr (.inl xf_102))), (mp, .inl (cJ, 324, .inr (.inl pf_103))), (mq, .inl (cJ, 18, .inr (.inl qf_104)))] H := hP
          have hD : va_D A [(ob, .inr (0, [.int (nI wn), .int (nI hn), .int fo, .ref gi, .ref k1_80, .ref s1_82, .ref pi, .ref fa])), (gi, .inr (1, [.ref gia, .int 3])), (gia, .inl (cJ, 114, .inr (.inl gif))), (k1_80, .inr (1, [.ref k1a_81, .int kv_84])), (k1a_81, .inl (cJ, 114, .inr (.inl kf_85))), (s1_82, .inr (1, [.ref s1a_83, .int sv_86])), (s1a_83, .inl (cJ, 114, .inr (.inl sf_87))), (pi, .inr (1, [.ref pia, .int (nI (pu_cutR fo (nI wn) (nI hn) gif).1)])), (pia, .inl (cJ, 114, .inr (.inl pf_88))), (fa, .inr (2, [.ref fas, .ref fat, .ref faa, .int (nI (pu_cutF (decide (¬ 1 = 0)) fo (nI wn) (nI hn) gif).1)])), (fas, .inl (cI, 17, .inl fS_89)), (fat, .inl (cI, 17, .inl fT_90)), (faa, .inl (cI, 17, .inl fA_91)), (mo, .inr (3, [.int 0, .int (nI wn), .int (nI hn), .int fo, .ref mt, .ref r1_97, .int kv_99, .ref x1_98, .int nv_100, .ref mp, .ref mq, .int (nI (pu_cutF (decide (¬ 1 = 0)) fo (nI wn) (nI hn) gif).1)])), (mt, .inl (cJ, 18, .inr (.inl gif))), (r1_97, .inl (cJ, 120, .inr (.inl rf_101))), (x1_98, .inl (cJ, 120, .inr (.inl xf_102))), (mp, .inl (cJ, 324, .inr (.inl pf_103))), (mq, .inl (cJ, 18, .inr (.inl qf_104)))] := hD
          refine lv_icmp_eq (tgt := 541) hx hb d_La_law_275 (by decide) (fun c_106 => ?_) (fun c_106 => absurd (rfl) c_106)
          refine lv_iinc (v := (nI (i + 5))) (lv' := [(3, .int (nI (i + 5))), (0, .ref b), (1, .ref ob), (2, .ref mo)]) hx hb d_La_law_541 hl (k := 3) rfl (nI_add i 5) (by decide) rfl (fun ls hl => ?_)
          refine lv_goto (tgt := 38) hx hb d_La_law_544 (by decide) ?_
          exact ih (i + 5) _ _ _ _ _ _ _ _ _ _ _ _ _ _ _ _ _ _ _ _ _ _ _ _ _ _ _ (by omega) (by omega) hfit hG hrel_92 hrel_105 _ _ hP hD hS ls (lv_sub hl [1, 2, 3, 0] rfl)
      · refine lv_tableIn (off := 228) (tgt := 280) hx hb d_La_law_52 (by decide) (by decide) (by decide) (by decide) ?_
        refine lv_aload_n hx hb d_La_law_280 rfl (lv_at hl 1 rfl) ?_
        refine lv_aload_n hx hb d_La_law_281 rfl (lv_at hl 0 rfl) ?_
        refine lv_iload_n hx hb d_La_law_282 rfl (lv_at hl 3 rfl) ?_
        refine lv_iconst (v := 1) hx hb d_La_law_283 (by decide) ?_
        refine lv_iadd hx hb d_La_law_284 ?_
        refine lv_topi (fun y_107 ey_107 => ?_)
        have ey_107 : y_107 = nI (i + 1) := by rw [ey_107]; first | rfl | (simp only [nk_set_0, nk_set_1, nk_set_2, nk_set_3, nk_set_4, nk_set_5, nk_set_6, nk_set_7, nk_set_12, nk_set_13, nk_set_18, pk_mul, nI_add]; done) | (simp only [nk_set_0, nk_set_1, nk_set_2, nk_set_3, nk_set_4, nk_set_5, nk_set_6, nk_set_7, nk_set_12, nk_set_13, nk_set_18, pk_mul, nI_add]; exact congrArg nI (by omega))
        subst ey_107
        refine va_sld hx hb hX hbl hbA hS (vp_in_nI (n := i + 1) (by omega) (by omega)) d_La_law_285 ?_
        refine lv_topi (fun y_108 ey_108 => ?_)
        rw [nI_clamp (by omega)] at ey_108
        subst ey_108
        refine lv_aload_n hx hb d_La_law_286 rfl (lv_at hl 0 rfl) ?_
        refine lv_iload_n hx hb d_La_law_287 rfl (lv_at hl 3 rfl) ?_
        refine lv_iconst (v := 2) hx hb d_La_law_288 (by decide) ?_
        refine lv_iadd hx hb d_La_law_289 ?_
        refine lv_topi (fun y_109 ey_109 => ?_)
        have ey_109 : y_109 = nI (i + 2) := by rw [ey_109]; first | rfl | (simp only [nk_set_0, nk_set_1, nk_set_2, nk_set_3, nk_set_4, nk_set_5, nk_set_6, nk_set_7, nk_set_12, nk_set_13, nk_set_18, pk_mul, nI_add]; done) | (simp only [nk_set_0, nk_set_1, nk_set_2, nk_set_3, nk_set_4, nk_set_5, nk_set_6, nk_set_7, nk_set_12, nk_set_13, nk_set_18, pk_mul, nI_add]; exact congrArg nI (by omega))
        subst ey_109
        refine va_sld hx hb hX hbl hbA hS (vp_in_nI (n := i + 2) (by omega) (by omega)) d_La_law_290 ?_
        refine lv_topi (fun y_110 ey_110 => ?_)
        rw [nI_clamp (by omega)] at ey_110
        subst ey_110
        refine lv_aload_n hx hb d_La_law_291 rfl (lv_at hl 0 rfl) ?_
        refine lv_iload_n hx hb d_La_law_292 rfl (lv_at hl 3 rfl) ?_
        refine lv_iconst (v := 3) hx hb d_La_law_293 (by decide) ?_
        refine lv_iadd hx hb d_La_law_294 ?_
        refine lv_topi (fun y_111 ey_111 => ?_)
        have ey_111 : y_111 = nI (i + 3) := by rw [ey_111]; first | rfl | (simp only [nk_set_0, nk_set_1, nk_set_2, nk_set_3, nk_set_4, nk_set_5, nk_set_6, nk_set_7, nk_set_12, nk_set_13, nk_set_18, pk_mul, nI_add]; done) | (simp only [nk_set_0, nk_set_1, nk_set_2, nk_set_3, nk_set_4, nk_set_5, nk_set_6, nk_set_7, nk_set_12, nk_set_13, nk_set_18, pk_mul, nI_add]; exact congrArg nI (by omega))
        subst ey_111
        refine va_sld hx hb hX hbl hbA hS (vp_in_nI (n := i + 3) (by omega) (by omega)) d_La_law_295 ?_
        refine lv_topi (fun y_112 ey_112 => ?_)
        rw [nI_clamp (by omega)] at ey_112
        subst ey_112
        have hPc := hP.sub (ws' := [(ob, .inr (0, [.int (nI wn), .int (nI hn), .int fo, .ref gi, .ref ke, .ref sp, .ref pi, .ref fa])), (gi, .inr (1, [.ref gia, .int 3])), (gia, .inl (cJ, 114, .inr (.inl gif))), (ke, .inr (1, [.ref kea, .int ken])), (kea, .inl (cJ, 114, .inr (.inl kef))), (sp, .inr (1, [.ref spa, .int spn])), (spa, .inl (cJ, 114, .inr (.inl spf))), (pi, .inr (1, [.ref pia, .int (nI pn)])), (pia, .inl (cJ, 114, .inr (.inl pif))), (fa, .inr (2, [.ref fas, .ref fat, .ref faa, .int (nI ct)])), (fas, .inl (cI, 17, .inl faS)), (fat, .inl (cI, 17, .inl faT)), (faa, .inl (cI, 17, .inl faA))]) [0, 1, 2, 3, 4, 5, 6, 7, 8, 9, 10, 11, 12] rfl
        refine vp_callSi (va_Run.run (va_runV (As := [.int (xs (i + 1)), .int (xs (i + 2)), .int (xs (i + 3))]) (rest := []) ⟨hx, hb, hml, hown, hts⟩ (k_PC_piece l dC dI cJ cI ob (nI wn) (nI hn) fo gi gia 3 gif ke kea ken kef sp spa spn spf pi pia (nI pn) pif fa fas fat faa (nI ct) faS faT faA ct pn S T P (xs (i + 1)) (xs (i + 2)) (xs (i + 3)) hcl) (cwV 3 hts (gd_V wd_170 wd_171 wd_172 wd_33 wd_173) rfl rfl rfl (by decide +kernel) ⟨Nat.le_of_ble_eq_true rfl, Nat.le_of_ble_eq_true rfl⟩) ⟨fb_ro, va_recv hK hPc (ci := 0) (q0 := 0) rfl rfl, pre_ro hK hN hPc⟩ rfl rfl hl.1 rfl (lv_room (Nat.le_of_ble_eq_true rfl)) d_La_law_296 ⟨Nat.le_of_ble_eq_true rfl, Nat.le_of_ble_eq_true rfl⟩)) (fun r_113 er_113 => ?_)
        have er_113 : r_113 = qa_piece ct S T P (xs (i + 1)) (xs (i + 2)) (xs (i + 3)) := er_113
        refine lv_aload_n hx hb d_La_law_299 rfl (lv_at hl 2 rfl) ?_
        refine lv_aload_n hx hb d_La_law_300 rfl (lv_at hl 0 rfl) ?_
        refine lv_iload_n hx hb d_La_law_301 rfl (lv_at hl 3 rfl) ?_
        refine lv_iconst (v := 1) hx hb d_La_law_302 (by decide) ?_
        refine lv_iadd hx hb d_La_law_303 ?_
        refine lv_topi (fun y_114 ey_114 => ?_)
        have ey_114 : y_114 = nI (i + 1) := by rw [ey_114]; first | rfl | (simp only [nk_set_0, nk_set_1, nk_set_2, nk_set_3, nk_set_4, nk_set_5, nk_set_6, nk_set_7, nk_set_12, nk_set_13, nk_set_18, pk_mul, nI_add]; done) | (simp only [nk_set_0, nk_set_1, nk_set_2, nk_set_3, nk_set_4, nk_set_5, nk_set_6, nk_set_7, nk_set_12, nk_set_13, nk_set_18, pk_mul, nI_add]; exact congrArg nI (by omega))
        subst ey_114
        refine va_sld hx hb hX hbl hbA hS (vp_in_nI (n := i + 1) (by omega) (by omega)) d_La_law_304 ?_
        refine lv_topi (fun y_115 ey_115 => ?_)
        rw [nI_clamp (by omega)] at ey_115
        subst ey_115
        refine lv_aload_n hx hb d_La_law_305 rfl (lv_at hl 0 rfl) ?_
        refine lv_iload_n hx hb d_La_law_306 rfl (lv_at hl 3 rfl) ?_
        refine lv_iconst (v := 2) hx hb d_La_law_307 (by decide) ?_
        refine lv_iadd hx hb d_La_law_308 ?_
        refine lv_topi (fun y_116 ey_116 => ?_)
        have ey_116 : y_116 = nI (i + 2) := by rw [ey_116]; first | rfl | (simp only [nk_set_0, nk_set_1, nk_set_2, nk_set_3, nk_set_4, nk_set_5, nk_set_6, nk_set_7, nk_set_12, nk_set_13, nk_set_18, pk_mul, nI_add]; done) | (simp only [nk_set_0, nk_set_1, nk_set_2, nk_set_3, nk_set_4, nk_set_5, nk_set_6, nk_set_7, nk_set_12, nk_set_13, nk_set_18, pk_mul, nI_add]; exact congrArg nI (by omega))
        subst ey_116
        refine va_sld hx hb hX hbl hbA hS (vp_in_nI (n := i + 2) (by omega) (by omega)) d_La_law_309 ?_
        refine lv_topi (fun y_117 ey_117 => ?_)
        rw [nI_clamp (by omega)] at ey_117
        subst ey_117
        refine lv_aload_n hx hb d_La_law_310 rfl (lv_at hl 0 rfl) ?_
        refine lv_iload_n hx hb d_La_law_311 rfl (lv_at hl 3 rfl) ?_
        refine lv_iconst (v := 3) hx hb d_La_law_312 (by decide) ?_
        refine lv_iadd hx hb d_La_law_313 ?_
        refine lv_topi (fun y_118 ey_118 => ?_)
        have ey_118 : y_118 = nI (i + 3) := by rw [ey_118]; first | rfl | (simp only [nk_set_0, nk_set_1, nk_set_2, nk_set_3, nk_set_4, nk_set_5, nk_set_6, nk_set_7, nk_set_12, nk_set_13, nk_set_18, pk_mul, nI_add]; done) | (simp only [nk_set_0, nk_set_1, nk_set_2, nk_set_3, nk_set_4, nk_set_5, nk_set_6, nk_set_7, nk_set_12, nk_set_13, nk_set_18, pk_mul, nI_add]; exact congrArg nI (by omega))
        subst ey_118
        refine va_sld hx hb hX hbl hbA hS (vp_in_nI (n := i + 3) (by omega) (by omega)) d_La_law_314 ?_
        refine lv_topi (fun y_119 ey_119 => ?_)
        rw [nI_clamp (by omega)] at ey_119
        subst ey_119
        have hPc := hP.sub (ws' := [(mo, .inr (3, [.int 0, .int (nI wn), .int (nI hn), .int fo, .ref mt, .ref mr, .int ma, .ref mx, .int mn, .ref mp, .ref mq, .int (nI ct)])), (mt, .inl (cJ, 18, .inr (.inl gif))), (mr, .inl (cJ, 120, .inr (.inl mrf))), (mx, .inl (cJ, 120, .inr (.inl mxf))), (mp, .inl (cJ, 324, .inr (.inl mpf))), (mq, .inl (cJ, 18, .inr (.inl mqf)))]) [13, 14, 15, 16, 17, 18] rfl
        have hDc := hD.sub (ws' := [(mo, .inr (3, [.int 0, .int (nI wn), .int (nI hn), .int fo, .ref mt, .ref mr, .int ma, .ref mx, .int mn, .ref mp, .ref mq, .int (nI ct)])), (mt, .inl (cJ, 18, .inr (.inl gif))), (mr, .inl (cJ, 120, .inr (.inl mrf))), (mx, .inl (cJ, 120, .inr (.inl mxf))), (mp, .inl (cJ, 324, .inr (.inl mpf))), (mq, .inl (cJ, 18, .inr (.inl mqf)))]) [13, 14, 15, 16, 17, 18] (by decide) rfl
        have hFc := va_free (wc := [(mo, .inr (3, [.int 0, .int (nI wn), .int (nI hn), .int fo, .ref mt, .ref mr, .int ma, .ref mx, .int mn, .ref mp, .ref mq, .int (nI ct)])), (mt, .inl (cJ, 18, .inr (.inl gif))), (mr, .inl (cJ, 120, .inr (.inl mrf))), (mx, .inl (cJ, 120, .inr (.inl mxf))), (mp, .inl (cJ, 324, .inr (.inl mpf))), (mq, .inl (cJ, 18, .inr (.inl mqf)))]) hD hS hA [13, 14, 15, 16, 17, 18] rfl
        refine va_calli (va_runV (As := [.int (xs (i + 1)), .int (xs (i + 2)), .int (xs (i + 3))]) (rest := [.int r_113]) ⟨hx, hb, hml, hown, hts⟩ (k_Mo_piece l dC dI cJ cI H.size mo (nI wn) (nI hn) fo mt mr ma mx mn mp mq ct gif mrf mxf mpf mqf pn S T P (xs (i + 1)) (xs (i + 2)) (xs (i + 3)) hmo) (cwV 3 hts (gd_V wd_310 wd_311 wd_312 wd_37 wd_313) rfl rfl rfl (by decide +kernel) ⟨Nat.le_of_ble_eq_true rfl, Nat.le_of_ble_eq_true rfl⟩) ⟨fb_rw, va_recv hK hPc (ci := 3) (q0 := 0) rfl rfl, pre_rw hK hN hPc hDc⟩ rfl rfl hl.1 rfl (lv_room (Nat.le_of_ble_eq_true rfl)) d_La_law_315 ⟨Nat.le_of_ble_eq_true rfl, Nat.le_of_ble_eq_true rfl⟩) hS (fun q _ h => hFc q h) hFc (fun r_120 u t H locs ht hvm hw hB hz1 hk1 hS => ?_)
        obtain ⟨hP1, hD1⟩ := hB
        rw [ht] at hP1
        obtain ⟨hP, hD⟩ := va_join (wr := [(ob, .inr (0, [.int (nI wn), .int (nI hn), .int fo, .ref gi, .ref ke, .ref sp, .ref pi, .ref fa])), (gi, .inr (1, [.ref gia, .int 3])), (gia, .inl (cJ, 114, .inr (.inl gif))), (ke, .inr (1, [.ref kea, .int ken])), (kea, .inl (cJ, 114, .inr (.inl kef))), (sp, .inr (1, [.ref spa, .int spn])), (spa, .inl (cJ, 114, .inr (.inl spf))), (pi, .inr (1, [.ref pia, .int (nI pn)])), (pia, .inl (cJ, 114, .inr (.inl pif))), (fa, .inr (2, [.ref fas, .ref fat, .ref faa, .int (nI ct)])), (fas, .inl (cI, 17, .inl faS)), (fat, .inl (cI, 17, .inl faT)), (faa, .inl (cI, 17, .inl faA))]) (w1 := [(mo, .inr (3, [.int 0, .int (nI wn), .int (nI hn), .int fo, .ref mt, .ref mr, .int ma, .ref mx, .int mn, .ref mp, .ref mq, .int (nI ct)])), (mt, .inl (cJ, 18, .inr (.inl gif))), (mr, .inl (cJ, 120, .inr (.inl mrf))), (mx, .inl (cJ, 120, .inr (.inl mxf))), (mp, .inl (cJ, 324, .inr (.inl mpf))), (mq, .inl (cJ, 18, .inr (.inl mqf)))]) hP hD [13, 14, 15, 16, 17, 18] [0, 1, 2, 3, 4, 5, 6, 7, 8, 9, 10, 11, 12] rfl rfl (by decide) (by decide) hk1 hFc hP1 hD1
        have er_120 := hw
        have er_120 : r_120 = qa_piece ct S T P (xs (i + 1)) (xs (i + 2)) (xs (i + 3)) := er_120
        have hP : va_P (dC, dI) cls4 [(ob, .inr (0, [.int (nI wn), .int (nI hn), .int fo, .ref gi, .ref ke, .ref sp, .ref pi, .ref fa])), (gi, .inr (1, [.ref gia, .int 3])), (gia, .inl (cJ, 114, .inr (.inl gif))), (ke, .inr (1, [.ref kea, .int ken])), (kea, .inl (cJ, 114, .inr (.inl kef))), (sp, .inr (1, [.ref spa, .int spn])), (spa, .inl (cJ, 114, .inr (.inl spf))), (pi, .inr (1, [.ref pia, .int (nI pn)])), (pia, .inl (cJ, 114, .inr (.inl pif))), (fa, .inr (2, [.ref fas, .ref fat, .ref faa, .int (nI ct)])), (fas, .inl (cI, 17, .inl faS)), (fat, .inl (cI, 17, .inl faT)), (faa, .inl (cI, 17, .inl faA)), (mo, .inr (3, [.int 0, .int (nI wn), .int (nI hn), .int fo, .ref mt, .ref mr, .int ma, .ref mx, .int mn, .ref mp, .ref mq, .int (nI ct)])), (mt, .inl (cJ, 18, .inr (.inl gif))), (mr, .inl (cJ, 120, .inr (.inl mrf))), (mx, .inl (cJ, 120, .inr (.inl mxf))), (mp, .inl (cJ, 324, .inr (.inl mpf))), (mq, .inl (cJ, 18, .inr (.inl mqf)))] H := hP
        have hD : va_D A [(ob, .inr (0, [.int (nI wn), .int (nI hn), .int fo, .ref gi, .ref ke, .ref sp, .ref pi, .ref fa])), (gi, .inr (1, [.ref gia, .int 3])), (gia, .inl (cJ, 114, .inr (.inl gif))), (ke, .inr (1, [.ref kea, .int ken])), (kea, .inl (cJ, 114, .inr (.inl kef))), (sp, .inr (1, [.ref spa, .int spn])), (spa, .inl (cJ, 114, .inr (.inl spf))), (pi, .inr (1, [.ref pia, .int (nI pn)])), (pia, .inl (cJ, 114, .inr (.inl pif))), (fa, .inr (2, [.ref fas, .ref fat, .ref faa, .int (nI ct)])), (fas, .inl (cI, 17, .inl faS)), (fat, .inl (cI, 17, .inl faT)), (faa, .inl (cI, 17, .inl faA)), (mo, .inr (3, [.int 0, .int (nI wn), .int (nI hn), .int fo, .ref mt, .ref mr, .int ma, .ref mx, .int mn, .ref mp, .ref mq, .int (nI ct)])), (mt, .inl (cJ, 18, .inr (.inl gif))), (mr, .inl (cJ, 120, .inr (.inl mrf))), (mx, .inl (cJ, 120, .inr (.inl mxf))), (mp, .inl (cJ, 324, .inr (.inl mpf))), (mq, .inl (cJ, 18, .inr (.inl mqf)))] := hD
        refine lv_icmp_eq (tgt := 541) hx hb d_La_law_318 (by decide) (fun c_121 => ?_) (fun c_121 => absurd (by rw [er_113, er_120]) c_121)
        refine lv_iinc (v := (nI (i + 5))) (lv' := [(3, .int (nI (i + 5))), (0, .ref b), (1, .ref ob), (2, .ref mo)]) hx hb d_La_law_541 hl (k := 3) rfl (nI_add i 5) (by decide) rfl (fun ls hl => ?_)
        refine lv_goto (tgt := 38) hx hb d_La_law_544 (by decide) ?_
        exact ih (i + 5) _ _ _ _ _ _ _ _ _ _ _ _ _ _ _ _ _ _ _ _ _ _ _ _ _ _ _ (by omega) (by omega) hfit hG hcl hmo _ _ hP hD hS ls (lv_sub hl [1, 2, 3, 0] rfl)
      · refine lv_tableIn (off := 271) (tgt := 323) hx hb d_La_law_52 (by decide) (by decide) (by decide) (by decide) ?_
        refine lv_aload_n hx hb d_La_law_323 rfl (lv_at hl 1 rfl) ?_
        refine lv_aload_n hx hb d_La_law_324 rfl (lv_at hl 0 rfl) ?_
        refine lv_iload_n hx hb d_La_law_325 rfl (lv_at hl 3 rfl) ?_
        refine lv_iconst (v := 1) hx hb d_La_law_326 (by decide) ?_
        refine lv_iadd hx hb d_La_law_327 ?_
        refine lv_topi (fun y_122 ey_122 => ?_)
        have ey_122 : y_122 = nI (i + 1) := by rw [ey_122]; first | rfl | (simp only [nk_set_0, nk_set_1, nk_set_2, nk_set_3, nk_set_4, nk_set_5, nk_set_6, nk_set_7, nk_set_12, nk_set_13, nk_set_18, pk_mul, nI_add]; done) | (simp only [nk_set_0, nk_set_1, nk_set_2, nk_set_3, nk_set_4, nk_set_5, nk_set_6, nk_set_7, nk_set_12, nk_set_13, nk_set_18, pk_mul, nI_add]; exact congrArg nI (by omega))
        subst ey_122
        refine va_sld hx hb hX hbl hbA hS (vp_in_nI (n := i + 1) (by omega) (by omega)) d_La_law_328 ?_
        refine lv_topi (fun y_123 ey_123 => ?_)
        rw [nI_clamp (by omega)] at ey_123
        subst ey_123
        have hPc := hP.sub (ws' := [(ob, .inr (0, [.int (nI wn), .int (nI hn), .int fo, .ref gi, .ref ke, .ref sp, .ref pi, .ref fa])), (gi, .inr (1, [.ref gia, .int 3])), (gia, .inl (cJ, 114, .inr (.inl gif))), (ke, .inr (1, [.ref kea, .int ken])), (kea, .inl (cJ, 114, .inr (.inl kef))), (sp, .inr (1, [.ref spa, .int spn])), (spa, .inl (cJ, 114, .inr (.inl spf))), (pi, .inr (1, [.ref pia, .int (nI pn)])), (pia, .inl (cJ, 114, .inr (.inl pif))), (fa, .inr (2, [.ref fas, .ref fat, .ref faa, .int (nI ct)])), (fas, .inl (cI, 17, .inl faS)), (fat, .inl (cI, 17, .inl faT)), (faa, .inl (cI, 17, .inl faA))]) [0, 1, 2, 3, 4, 5, 6, 7, 8, 9, 10, 11, 12] rfl
        refine vp_callSi (va_Run.run (va_runV (As := [.int (xs (i + 1))]) (rest := []) ⟨hx, hb, hml, hown, hts⟩ (k_PC_area l dC dI cJ cI ob (nI wn) (nI hn) fo gi gia 3 gif ke kea ken kef sp spa spn spf pi pia (nI pn) pif fa fas fat faa (nI ct) faS faT faA ct pn S T P (xs (i + 1)) hcl) (cwV 1 hts (gd_V wd_179 wd_180 wd_181 wd_33 wd_182) rfl rfl rfl (by decide +kernel) ⟨Nat.le_of_ble_eq_true rfl, Nat.le_of_ble_eq_true rfl⟩) ⟨fb_ro, va_recv hK hPc (ci := 0) (q0 := 0) rfl rfl, pre_ro hK hN hPc⟩ rfl rfl hl.1 rfl (lv_room (Nat.le_of_ble_eq_true rfl)) d_La_law_329 ⟨Nat.le_of_ble_eq_true rfl, Nat.le_of_ble_eq_true rfl⟩)) (fun r_124 er_124 => ?_)
        have er_124 : r_124 = qa_area ct S T P (xs (i + 1)) := er_124
        refine lv_aload_n hx hb d_La_law_332 rfl (lv_at hl 2 rfl) ?_
        refine lv_aload_n hx hb d_La_law_333 rfl (lv_at hl 0 rfl) ?_
        refine lv_iload_n hx hb d_La_law_334 rfl (lv_at hl 3 rfl) ?_
        refine lv_iconst (v := 1) hx hb d_La_law_335 (by decide) ?_
        refine lv_iadd hx hb d_La_law_336 ?_
        refine lv_topi (fun y_125 ey_125 => ?_)
        have ey_125 : y_125 = nI (i + 1) := by rw [ey_125]; first | rfl | (simp only [nk_set_0, nk_set_1, nk_set_2, nk_set_3, nk_set_4, nk_set_5, nk_set_6, nk_set_7, nk_set_12, nk_set_13, nk_set_18, pk_mul, nI_add]; done) | (simp only [nk_set_0, nk_set_1, nk_set_2, nk_set_3, nk_set_4, nk_set_5, nk_set_6, nk_set_7, nk_set_12, nk_set_13, nk_set_18, pk_mul, nI_add]; exact congrArg nI (by omega))
        subst ey_125
        refine va_sld hx hb hX hbl hbA hS (vp_in_nI (n := i + 1) (by omega) (by omega)) d_La_law_337 ?_
        refine lv_topi (fun y_126 ey_126 => ?_)
        rw [nI_clamp (by omega)] at ey_126
        subst ey_126
        have hPc := hP.sub (ws' := [(mo, .inr (3, [.int 0, .int (nI wn), .int (nI hn), .int fo, .ref mt, .ref mr, .int ma, .ref mx, .int mn, .ref mp, .ref mq, .int (nI ct)])), (mt, .inl (cJ, 18, .inr (.inl gif))), (mr, .inl (cJ, 120, .inr (.inl mrf))), (mx, .inl (cJ, 120, .inr (.inl mxf))), (mp, .inl (cJ, 324, .inr (.inl mpf))), (mq, .inl (cJ, 18, .inr (.inl mqf)))]) [13, 14, 15, 16, 17, 18] rfl
        have hDc := hD.sub (ws' := [(mo, .inr (3, [.int 0, .int (nI wn), .int (nI hn), .int fo, .ref mt, .ref mr, .int ma, .ref mx, .int mn, .ref mp, .ref mq, .int (nI ct)])), (mt, .inl (cJ, 18, .inr (.inl gif))), (mr, .inl (cJ, 120, .inr (.inl mrf))), (mx, .inl (cJ, 120, .inr (.inl mxf))), (mp, .inl (cJ, 324, .inr (.inl mpf))), (mq, .inl (cJ, 18, .inr (.inl mqf)))]) [13, 14, 15, 16, 17, 18] (by decide) rfl
        have hFc := va_free (wc := [(mo, .inr (3, [.int 0, .int (nI wn), .int (nI hn), .int fo, .ref mt, .ref mr, .int ma, .ref mx, .int mn, .ref mp, .ref mq, .int (nI ct)])), (mt, .inl (cJ, 18, .inr (.inl gif))), (mr, .inl (cJ, 120, .inr (.inl mrf))), (mx, .inl (cJ, 120, .inr (.inl mxf))), (mp, .inl (cJ, 324, .inr (.inl mpf))), (mq, .inl (cJ, 18, .inr (.inl mqf)))]) hD hS hA [13, 14, 15, 16, 17, 18] rfl
        refine va_calli (va_runV (As := [.int (xs (i + 1))]) (rest := [.int r_124]) ⟨hx, hb, hml, hown, hts⟩ (k_Mo_area l dC dI cJ cI H.size mo (nI wn) (nI hn) fo mt mr ma mx mn mp mq ct gif mrf mxf mpf mqf pn S T P (xs (i + 1)) hmo) (cwV 1 hts (gd_V wd_314 wd_315 wd_316 wd_37 wd_317) rfl rfl rfl (by decide +kernel) ⟨Nat.le_of_ble_eq_true rfl, Nat.le_of_ble_eq_true rfl⟩) ⟨fb_rw, va_recv hK hPc (ci := 3) (q0 := 0) rfl rfl, pre_rw hK hN hPc hDc⟩ rfl rfl hl.1 rfl (lv_room (Nat.le_of_ble_eq_true rfl)) d_La_law_338 ⟨Nat.le_of_ble_eq_true rfl, Nat.le_of_ble_eq_true rfl⟩) hS (fun q _ h => hFc q h) hFc (fun r_127 u t H locs ht hvm hw hB hz1 hk1 hS => ?_)
        obtain ⟨hP1, hD1⟩ := hB
        rw [ht] at hP1
        obtain ⟨hP, hD⟩ := va_join (wr := [(ob, .inr (0, [.int (nI wn), .int (nI hn), .int fo, .ref gi, .ref ke, .ref sp, .ref pi, .ref fa])), (gi, .inr (1, [.ref gia, .int 3])), (gia, .inl (cJ, 114, .inr (.inl gif))), (ke, .inr (1, [.ref kea, .int ken])), (kea, .inl (cJ, 114, .inr (.inl kef))), (sp, .inr (1, [.ref spa, .int spn])), (spa, .inl (cJ, 114, .inr (.inl spf))), (pi, .inr (1, [.ref pia, .int (nI pn)])), (pia, .inl (cJ, 114, .inr (.inl pif))), (fa, .inr (2, [.ref fas, .ref fat, .ref faa, .int (nI ct)])), (fas, .inl (cI, 17, .inl faS)), (fat, .inl (cI, 17, .inl faT)), (faa, .inl (cI, 17, .inl faA))]) (w1 := [(mo, .inr (3, [.int 0, .int (nI wn), .int (nI hn), .int fo, .ref mt, .ref mr, .int ma, .ref mx, .int mn, .ref mp, .ref mq, .int (nI ct)])), (mt, .inl (cJ, 18, .inr (.inl gif))), (mr, .inl (cJ, 120, .inr (.inl mrf))), (mx, .inl (cJ, 120, .inr (.inl mxf))), (mp, .inl (cJ, 324, .inr (.inl mpf))), (mq, .inl (cJ, 18, .inr (.inl mqf)))]) hP hD [13, 14, 15, 16, 17, 18] [0, 1, 2, 3, 4, 5, 6, 7, 8, 9, 10, 11, 12] rfl rfl (by decide) (by decide) hk1 hFc hP1 hD1
        have er_127 := hw
        have er_127 : r_127 = qa_area ct S T P (xs (i + 1)) := er_127
        have hP : va_P (dC, dI) cls4 [(ob, .inr (0, [.int (nI wn), .int (nI hn), .int fo, .ref gi, .ref ke, .ref sp, .ref pi, .ref fa])), (gi, .inr (1, [.ref gia, .int 3])), (gia, .inl (cJ, 114, .inr (.inl gif))), (ke, .inr (1, [.ref kea, .int ken])), (kea, .inl (cJ, 114, .inr (.inl kef))), (sp, .inr (1, [.ref spa, .int spn])), (spa, .inl (cJ, 114, .inr (.inl spf))), (pi, .inr (1, [.ref pia, .int (nI pn)])), (pia, .inl (cJ, 114, .inr (.inl pif))), (fa, .inr (2, [.ref fas, .ref fat, .ref faa, .int (nI ct)])), (fas, .inl (cI, 17, .inl faS)), (fat, .inl (cI, 17, .inl faT)), (faa, .inl (cI, 17, .inl faA)), (mo, .inr (3, [.int 0, .int (nI wn), .int (nI hn), .int fo, .ref mt, .ref mr, .int ma, .ref mx, .int mn, .ref mp, .ref mq, .int (nI ct)])), (mt, .inl (cJ, 18, .inr (.inl gif))), (mr, .inl (cJ, 120, .inr (.inl mrf))), (mx, .inl (cJ, 120, .inr (.inl mxf))), (mp, .inl (cJ, 324, .inr (.inl mpf))), (mq, .inl (cJ, 18, .inr (.inl mqf)))] H := hP
        have hD : va_D A [(ob, .inr (0, [.int (nI wn), .int (nI hn), .int fo, .ref gi, .ref ke, .ref sp, .ref pi, .ref fa])), (gi, .inr (1, [.ref gia, .int 3])), (gia, .inl (cJ, 114, .inr (.inl gif))), (ke, .inr (1, [.ref kea, .int ken])), (kea, .inl (cJ, 114, .inr (.inl kef))), (sp, .inr (1, [.ref spa, .int spn])), (spa, .inl (cJ, 114, .inr (.inl spf))), (pi, .inr (1, [.ref pia, .int (nI pn)])), (pia, .inl (cJ, 114, .inr (.inl pif))), (fa, .inr (2, [.ref fas, .ref fat, .ref faa, .int (nI ct)])), (fas, .inl (cI, 17, .inl faS)), (fat, .inl (cI, 17, .inl faT)), (faa, .inl (cI, 17, .inl faA)), (mo, .inr (3, [.int 0, .int (nI wn), .int (nI hn), .int fo, .ref mt, .ref mr, .int ma, .ref mx, .int mn, .ref mp, .ref mq, .int (nI ct)])), (mt, .inl (cJ, 18, .inr (.inl gif))), (mr, .inl (cJ, 120, .inr (.inl mrf))), (mx, .inl (cJ, 120, .inr (.inl mxf))), (mp, .inl (cJ, 324, .inr (.inl mpf))), (mq, .inl (cJ, 18, .inr (.inl mqf)))] := hD
        refine lv_icmp_eq (tgt := 541) hx hb d_La_law_341 (by decide) (fun c_128 => ?_) (fun c_128 => absurd (by rw [er_124, er_127]) c_128)
        refine lv_iinc (v := (nI (i + 5))) (lv' := [(3, .int (nI (i + 5))), (0, .ref b), (1, .ref ob), (2, .ref mo)]) hx hb d_La_law_541 hl (k := 3) rfl (nI_add i 5) (by decide) rfl (fun ls hl => ?_)
        refine lv_goto (tgt := 38) hx hb d_La_law_544 (by decide) ?_
        exact ih (i + 5) _ _ _ _ _ _ _ _ _ _ _ _ _ _ _ _ _ _ _ _ _ _ _ _ _ _ _ (by omega) (by omega) hfit hG hcl hmo _ _ hP hD hS ls (lv_sub hl [1, 2, 3, 0] rfl)
      · refine lv_tableIn (off := 294) (tgt := 346) hx hb d_La_law_52 (by decide) (by decide) (by decide) (by decide) ?_
        refine lv_aload_n hx hb d_La_law_346 rfl (lv_at hl 1 rfl) ?_
        refine lv_aload_n hx hb d_La_law_347 rfl (lv_at hl 0 rfl) ?_
        refine lv_iload_n hx hb d_La_law_348 rfl (lv_at hl 3 rfl) ?_
        refine lv_iconst (v := 1) hx hb d_La_law_349 (by decide) ?_
        refine lv_iadd hx hb d_La_law_350 ?_
        refine lv_topi (fun y_129 ey_129 => ?_)
        have ey_129 : y_129 = nI (i + 1) := by rw [ey_129]; first | rfl | (simp only [nk_set_0, nk_set_1, nk_set_2, nk_set_3, nk_set_4, nk_set_5, nk_set_6, nk_set_7, nk_set_12, nk_set_13, nk_set_18, pk_mul, nI_add]; done) | (simp only [nk_set_0, nk_set_1, nk_set_2, nk_set_3, nk_set_4, nk_set_5, nk_set_6, nk_set_7, nk_set_12, nk_set_13, nk_set_18, pk_mul, nI_add]; exact congrArg nI (by omega))
        subst ey_129
        refine va_sld hx hb hX hbl hbA hS (vp_in_nI (n := i + 1) (by omega) (by omega)) d_La_law_351 ?_
        refine lv_topi (fun y_130 ey_130 => ?_)
        rw [nI_clamp (by omega)] at ey_130
        subst ey_130
        refine lv_aload_n hx hb d_La_law_352 rfl (lv_at hl 0 rfl) ?_
        refine lv_iload_n hx hb d_La_law_353 rfl (lv_at hl 3 rfl) ?_
        refine lv_iconst (v := 2) hx hb d_La_law_354 (by decide) ?_
        refine lv_iadd hx hb d_La_law_355 ?_
        refine lv_topi (fun y_131 ey_131 => ?_)
        have ey_131 : y_131 = nI (i + 2) := by rw [ey_131]; first | rfl | (simp only [nk_set_0, nk_set_1, nk_set_2, nk_set_3, nk_set_4, nk_set_5, nk_set_6, nk_set_7, nk_set_12, nk_set_13, nk_set_18, pk_mul, nI_add]; done) | (simp only [nk_set_0, nk_set_1, nk_set_2, nk_set_3, nk_set_4, nk_set_5, nk_set_6, nk_set_7, nk_set_12, nk_set_13, nk_set_18, pk_mul, nI_add]; exact congrArg nI (by omega))
        subst ey_131
        refine va_sld hx hb hX hbl hbA hS (vp_in_nI (n := i + 2) (by omega) (by omega)) d_La_law_356 ?_
        refine lv_topi (fun y_132 ey_132 => ?_)
        rw [nI_clamp (by omega)] at ey_132
        subst ey_132
        have hPc := hP.sub (ws' := [(ob, .inr (0, [.int (nI wn), .int (nI hn), .int fo, .ref gi, .ref ke, .ref sp, .ref pi, .ref fa])), (gi, .inr (1, [.ref gia, .int 3])), (gia, .inl (cJ, 114, .inr (.inl gif))), (ke, .inr (1, [.ref kea, .int ken])), (kea, .inl (cJ, 114, .inr (.inl kef))), (sp, .inr (1, [.ref spa, .int spn])), (spa, .inl (cJ, 114, .inr (.inl spf))), (pi, .inr (1, [.ref pia, .int (nI pn)])), (pia, .inl (cJ, 114, .inr (.inl pif))), (fa, .inr (2, [.ref fas, .ref fat, .ref faa, .int (nI ct)])), (fas, .inl (cI, 17, .inl faS)), (fat, .inl (cI, 17, .inl faT)), (faa, .inl (cI, 17, .inl faA))]) [0, 1, 2, 3, 4, 5, 6, 7, 8, 9, 10, 11, 12] rfl
        refine vp_callSi (va_Run.run (va_runV (As := [.int (xs (i + 1)), .int (xs (i + 2))]) (rest := []) ⟨hx, hb, hml, hown, hts⟩ (c_PC_first l dC dI cJ cI ob wn (nI hn) fo gi gia 3 gif ke kea ken kef sp spa spn spf pi pia (nI pn) pif fa fas fat faa (nI ct) faS faT faA ct pn S T P (xs (i + 1)) (xs (i + 2)) hcl (by omega)) (cwV 2 hts (gd_V wd_183 wd_184 wd_185 wd_33 wd_186) rfl rfl rfl (by decide +kernel) ⟨Nat.le_of_ble_eq_true rfl, Nat.le_of_ble_eq_true rfl⟩) ⟨fb_ro, va_recv hK hPc (ci := 0) (q0 := 0) rfl rfl, pre_ro hK hN hPc⟩ rfl rfl hl.1 rfl (lv_room (Nat.le_of_ble_eq_true rfl)) d_La_law_357 ⟨Nat.le_of_ble_eq_true rfl, Nat.le_of_ble_eq_true rfl⟩)) (fun r_133 er_133 => ?_)
        have er_133 : r_133 = qa_first (nI wn) (nI hn) wn ct S T P (xs (i + 1)) (xs (i + 2)) := er_133
        refine lv_aload_n hx hb d_La_law_360 rfl (lv_at hl 2 rfl) ?_
        refine lv_aload_n hx hb d_La_law_361 rfl (lv_at hl 0 rfl) ?_
        refine lv_iload_n hx hb d_La_law_362 rfl (lv_at hl 3 rfl) ?_
        refine lv_iconst (v := 1) hx hb d_La_law_363 (by decide) ?_
        refine lv_iadd hx hb d_La_law_364 ?_
        refine lv_topi (fun y_134 ey_134 => ?_)
        have ey_134 : y_134 = nI (i + 1) := by rw [ey_134]; first | rfl | (simp only [nk_set_0, nk_set_1, nk_set_2, nk_set_3, nk_set_4, nk_set_5, nk_set_6, nk_set_7, nk_set_12, nk_set_13, nk_set_18, pk_mul, nI_add]; done) | (simp only [nk_set_0, nk_set_1, nk_set_2, nk_set_3, nk_set_4, nk_set_5, nk_set_6, nk_set_7, nk_set_12, nk_set_13, nk_set_18, pk_mul, nI_add]; exact congrArg nI (by omega))
        subst ey_134
        refine va_sld hx hb hX hbl hbA hS (vp_in_nI (n := i + 1) (by omega) (by omega)) d_La_law_365 ?_
        refine lv_topi (fun y_135 ey_135 => ?_)
        rw [nI_clamp (by omega)] at ey_135
        subst ey_135
        refine lv_aload_n hx hb d_La_law_366 rfl (lv_at hl 0 rfl) ?_
        refine lv_iload_n hx hb d_La_law_367 rfl (lv_at hl 3 rfl) ?_
        refine lv_iconst (v := 2) hx hb d_La_law_368 (by decide) ?_
        refine lv_iadd hx hb d_La_law_369 ?_
        refine lv_topi (fun y_136 ey_136 => ?_)
        have ey_136 : y_136 = nI (i + 2) := by rw [ey_136]; first | rfl | (simp only [nk_set_0, nk_set_1, nk_set_2, nk_set_3, nk_set_4, nk_set_5, nk_set_6, nk_set_7, nk_set_12, nk_set_13, nk_set_18, pk_mul, nI_add]; done) | (simp only [nk_set_0, nk_set_1, nk_set_2, nk_set_3, nk_set_4, nk_set_5, nk_set_6, nk_set_7, nk_set_12, nk_set_13, nk_set_18, pk_mul, nI_add]; exact congrArg nI (by omega))
        subst ey_136
        refine va_sld hx hb hX hbl hbA hS (vp_in_nI (n := i + 2) (by omega) (by omega)) d_La_law_370 ?_
        refine lv_topi (fun y_137 ey_137 => ?_)
        rw [nI_clamp (by omega)] at ey_137
        subst ey_137
        have hPc := hP.sub (ws' := [(mo, .inr (3, [.int 0, .int (nI wn), .int (nI hn), .int fo, .ref mt, .ref mr, .int ma, .ref mx, .int mn, .ref mp, .ref mq, .int (nI ct)])), (mt, .inl (cJ, 18, .inr (.inl gif))), (mr, .inl (cJ, 120, .inr (.inl mrf))), (mx, .inl (cJ, 120, .inr (.inl mxf))), (mp, .inl (cJ, 324, .inr (.inl mpf))), (mq, .inl (cJ, 18, .inr (.inl mqf)))]) [13, 14, 15, 16, 17, 18] rfl
        have hDc := hD.sub (ws' := [(mo, .inr (3, [.int 0, .int (nI wn), .int (nI hn), .int fo, .ref mt, .ref mr, .int ma, .ref mx, .int mn, .ref mp, .ref mq, .int (nI ct)])), (mt, .inl (cJ, 18, .inr (.inl gif))), (mr, .inl (cJ, 120, .inr (.inl mrf))), (mx, .inl (cJ, 120, .inr (.inl mxf))), (mp, .inl (cJ, 324, .inr (.inl mpf))), (mq, .inl (cJ, 18, .inr (.inl mqf)))]) [13, 14, 15, 16, 17, 18] (by decide) rfl
        have hFc := va_free (wc := [(mo, .inr (3, [.int 0, .int (nI wn), .int (nI hn), .int fo, .ref mt, .ref mr, .int ma, .ref mx, .int mn, .ref mp, .ref mq, .int (nI ct)])), (mt, .inl (cJ, 18, .inr (.inl gif))), (mr, .inl (cJ, 120, .inr (.inl mrf))), (mx, .inl (cJ, 120, .inr (.inl mxf))), (mp, .inl (cJ, 324, .inr (.inl mpf))), (mq, .inl (cJ, 18, .inr (.inl mqf)))]) hD hS hA [13, 14, 15, 16, 17, 18] rfl
        refine va_calli (va_runV (As := [.int (xs (i + 1)), .int (xs (i + 2))]) (rest := [.int r_133]) ⟨hx, hb, hml, hown, hts⟩ (c_Mo_first l dC dI cJ cI H.size mo wn (nI hn) fo mt mr ma mx mn mp mq ct gif mrf mxf mpf mqf pn S T P (xs (i + 1)) (xs (i + 2)) hmo (by omega) hwh) (cwV 2 hts (gd_V wd_318 wd_319 wd_320 wd_37 wd_321) rfl rfl rfl (by decide +kernel) ⟨Nat.le_of_ble_eq_true rfl, Nat.le_of_ble_eq_true rfl⟩) ⟨fb_rw, va_recv hK hPc (ci := 3) (q0 := 0) rfl rfl, pre_rw hK hN hPc hDc⟩ rfl rfl hl.1 rfl (lv_room (Nat.le_of_ble_eq_true rfl)) d_La_law_371 ⟨Nat.le_of_ble_eq_true rfl, Nat.le_of_ble_eq_true rfl⟩) hS (fun q _ h => hFc q h) hFc (fun r_138 u t H locs ht hvm hw hB hz1 hk1 hS => ?_)
        obtain ⟨hP1, hD1⟩ := hB
        rw [ht] at hP1
        obtain ⟨hP, hD⟩ := va_join (wr := [(ob, .inr (0, [.int (nI wn), .int (nI hn), .int fo, .ref gi, .ref ke, .ref sp, .ref pi, .ref fa])), (gi, .inr (1, [.ref gia, .int 3])), (gia, .inl (cJ, 114, .inr (.inl gif))), (ke, .inr (1, [.ref kea, .int ken])), (kea, .inl (cJ, 114, .inr (.inl kef))), (sp, .inr (1, [.ref spa, .int spn])), (spa, .inl (cJ, 114, .inr (.inl spf))), (pi, .inr (1, [.ref pia, .int (nI pn)])), (pia, .inl (cJ, 114, .inr (.inl pif))), (fa, .inr (2, [.ref fas, .ref fat, .ref faa, .int (nI ct)])), (fas, .inl (cI, 17, .inl faS)), (fat, .inl (cI, 17, .inl faT)), (faa, .inl (cI, 17, .inl faA))]) (w1 := [(mo, .inr (3, [.int 0, .int (nI wn), .int (nI hn), .int fo, .ref mt, .ref mr, .int ma, .ref mx, .int mn, .ref mp, .ref mq, .int (nI ct)])), (mt, .inl (cJ, 18, .inr (.inl gif))), (mr, .inl (cJ, 120, .inr (.inl mrf))), (mx, .inl (cJ, 120, .inr (.inl mxf))), (mp, .inl (cJ, 324, .inr (.inl mpf))), (mq, .inl (cJ, 18, .inr (.inl mqf)))]) hP hD [13, 14, 15, 16, 17, 18] [0, 1, 2, 3, 4, 5, 6, 7, 8, 9, 10, 11, 12] rfl rfl (by decide) (by decide) hk1 hFc hP1 hD1
        have er_138 := hw
        have er_138 : r_138 = qa_first (nI wn) (nI hn) wn ct S T P (xs (i + 1)) (xs (i + 2)) := er_138
        have hP : va_P (dC, dI) cls4 [(ob, .inr (0, [.int (nI wn), .int (nI hn), .int fo, .ref gi, .ref ke, .ref sp, .ref pi, .ref fa])), (gi, .inr (1, [.ref gia, .int 3])), (gia, .inl (cJ, 114, .inr (.inl gif))), (ke, .inr (1, [.ref kea, .int ken])), (kea, .inl (cJ, 114, .inr (.inl kef))), (sp, .inr (1, [.ref spa, .int spn])), (spa, .inl (cJ, 114, .inr (.inl spf))), (pi, .inr (1, [.ref pia, .int (nI pn)])), (pia, .inl (cJ, 114, .inr (.inl pif))), (fa, .inr (2, [.ref fas, .ref fat, .ref faa, .int (nI ct)])), (fas, .inl (cI, 17, .inl faS)), (fat, .inl (cI, 17, .inl faT)), (faa, .inl (cI, 17, .inl faA)), (mo, .inr (3, [.int 0, .int (nI wn), .int (nI hn), .int fo, .ref mt, .ref mr, .int ma, .ref mx, .int mn, .ref mp, .ref mq, .int (nI ct)])), (mt, .inl (cJ, 18, .inr (.inl gif))), (mr, .inl (cJ, 120, .inr (.inl mrf))), (mx, .inl (cJ, 120, .inr (.inl mxf))), (mp, .inl (cJ, 324, .inr (.inl mpf))), (mq, .inl (cJ, 18, .inr (.inl mqf)))] H := hP
        have hD : va_D A [(ob, .inr (0, [.int (nI wn), .int (nI hn), .int fo, .ref gi, .ref ke, .ref sp, .ref pi, .ref fa])), (gi, .inr (1, [.ref gia, .int 3])), (gia, .inl (cJ, 114, .inr (.inl gif))), (ke, .inr (1, [.ref kea, .int ken])), (kea, .inl (cJ, 114, .inr (.inl kef))), (sp, .inr (1, [.ref spa, .int spn])), (spa, .inl (cJ, 114, .inr (.inl spf))), (pi, .inr (1, [.ref pia, .int (nI pn)])), (pia, .inl (cJ, 114, .inr (.inl pif))), (fa, .inr (2, [.ref fas, .ref fat, .ref faa, .int (nI ct)])), (fas, .inl (cI, 17, .inl faS)), (fat, .inl (cI, 17, .inl faT)), (faa, .inl (cI, 17, .inl faA)), (mo, .inr (3, [.int 0, .int (nI wn), .int (nI hn), .int fo, .ref mt, .ref mr, .int ma, .ref mx, .int mn, .ref mp, .ref mq, .int (nI ct)])), (mt, .inl (cJ, 18, .inr (.inl gif))), (mr, .inl (cJ, 120, .inr (.inl mrf))), (mx, .inl (cJ, 120, .inr (.inl mxf))), (mp, .inl (cJ, 324, .inr (.inl mpf))), (mq, .inl (cJ, 18, .inr (.inl mqf)))] := hD
        refine lv_icmp_eq (tgt := 541) hx hb d_La_law_374 (by decide) (fun c_139 => ?_) (fun c_139 => absurd (by rw [er_133, er_138]) c_139)
        refine lv_iinc (v := (nI (i + 5))) (lv' := [(3, .int (nI (i + 5))), (0, .ref b), (1, .ref ob), (2, .ref mo)]) hx hb d_La_law_541 hl (k := 3) rfl (nI_add i 5) (by decide) rfl (fun ls hl => ?_)
        refine lv_goto (tgt := 38) hx hb d_La_law_544 (by decide) ?_
        exact ih (i + 5) _ _ _ _ _ _ _ _ _ _ _ _ _ _ _ _ _ _ _ _ _ _ _ _ _ _ _ (by omega) (by omega) hfit hG hcl hmo _ _ hP hD hS ls (lv_sub hl [1, 2, 3, 0] rfl)
      · refine lv_tableIn (off := 327) (tgt := 379) hx hb d_La_law_52 (by decide) (by decide) (by decide) (by decide) ?_
        refine lv_aload_n hx hb d_La_law_379 rfl (lv_at hl 1 rfl) ?_
        refine lv_aload_n hx hb d_La_law_380 rfl (lv_at hl 0 rfl) ?_
        refine lv_iload_n hx hb d_La_law_381 rfl (lv_at hl 3 rfl) ?_
        refine lv_iconst (v := 1) hx hb d_La_law_382 (by decide) ?_
        refine lv_iadd hx hb d_La_law_383 ?_
        refine lv_topi (fun y_140 ey_140 => ?_)
        have ey_140 : y_140 = nI (i + 1) := by rw [ey_140]; first | rfl | (simp only [nk_set_0, nk_set_1, nk_set_2, nk_set_3, nk_set_4, nk_set_5, nk_set_6, nk_set_7, nk_set_12, nk_set_13, nk_set_18, pk_mul, nI_add]; done) | (simp only [nk_set_0, nk_set_1, nk_set_2, nk_set_3, nk_set_4, nk_set_5, nk_set_6, nk_set_7, nk_set_12, nk_set_13, nk_set_18, pk_mul, nI_add]; exact congrArg nI (by omega))
        subst ey_140
        refine va_sld hx hb hX hbl hbA hS (vp_in_nI (n := i + 1) (by omega) (by omega)) d_La_law_384 ?_
        refine lv_topi (fun y_141 ey_141 => ?_)
        rw [nI_clamp (by omega)] at ey_141
        subst ey_141
        refine lv_aload_n hx hb d_La_law_385 rfl (lv_at hl 0 rfl) ?_
        refine lv_iload_n hx hb d_La_law_386 rfl (lv_at hl 3 rfl) ?_
        refine lv_iconst (v := 2) hx hb d_La_law_387 (by decide) ?_
        refine lv_iadd hx hb d_La_law_388 ?_
        refine lv_topi (fun y_142 ey_142 => ?_)
        have ey_142 : y_142 = nI (i + 2) := by rw [ey_142]; first | rfl | (simp only [nk_set_0, nk_set_1, nk_set_2, nk_set_3, nk_set_4, nk_set_5, nk_set_6, nk_set_7, nk_set_12, nk_set_13, nk_set_18, pk_mul, nI_add]; done) | (simp only [nk_set_0, nk_set_1, nk_set_2, nk_set_3, nk_set_4, nk_set_5, nk_set_6, nk_set_7, nk_set_12, nk_set_13, nk_set_18, pk_mul, nI_add]; exact congrArg nI (by omega))
        subst ey_142
        refine va_sld hx hb hX hbl hbA hS (vp_in_nI (n := i + 2) (by omega) (by omega)) d_La_law_389 ?_
        refine lv_topi (fun y_143 ey_143 => ?_)
        rw [nI_clamp (by omega)] at ey_143
        subst ey_143
        have hPc := hP.sub (ws' := [(ob, .inr (0, [.int (nI wn), .int (nI hn), .int fo, .ref gi, .ref ke, .ref sp, .ref pi, .ref fa])), (gi, .inr (1, [.ref gia, .int 3])), (gia, .inl (cJ, 114, .inr (.inl gif))), (ke, .inr (1, [.ref kea, .int ken])), (kea, .inl (cJ, 114, .inr (.inl kef))), (sp, .inr (1, [.ref spa, .int spn])), (spa, .inl (cJ, 114, .inr (.inl spf))), (pi, .inr (1, [.ref pia, .int (nI pn)])), (pia, .inl (cJ, 114, .inr (.inl pif))), (fa, .inr (2, [.ref fas, .ref fat, .ref faa, .int (nI ct)])), (fas, .inl (cI, 17, .inl faS)), (fat, .inl (cI, 17, .inl faT)), (faa, .inl (cI, 17, .inl faA))]) [0, 1, 2, 3, 4, 5, 6, 7, 8, 9, 10, 11, 12] rfl
        refine vp_callSi (va_Run.run (va_runV (As := [.int (xs (i + 1)), .int (xs (i + 2))]) (rest := []) ⟨hx, hb, hml, hown, hts⟩ (c_PC_last l dC dI cJ cI ob wn (nI hn) fo gi gia 3 gif ke kea ken kef sp spa spn spf pi pia (nI pn) pif fa fas fat faa (nI ct) faS faT faA ct pn S T P (xs (i + 1)) (xs (i + 2)) hcl (by omega)) (cwV 2 hts (gd_V wd_205 wd_206 wd_207 wd_33 wd_208) rfl rfl rfl (by decide +kernel) ⟨Nat.le_of_ble_eq_true rfl, Nat.le_of_ble_eq_true rfl⟩) ⟨fb_ro, va_recv hK hPc (ci := 0) (q0 := 0) rfl rfl, pre_ro hK hN hPc⟩ rfl rfl hl.1 rfl (lv_room (Nat.le_of_ble_eq_true rfl)) d_La_law_390 ⟨Nat.le_of_ble_eq_true rfl, Nat.le_of_ble_eq_true rfl⟩)) (fun r_144 er_144 => ?_)
        have er_144 : r_144 = qa_last (nI wn) (nI hn) wn ct S T P (xs (i + 1)) (xs (i + 2)) := er_144
        refine lv_aload_n hx hb d_La_law_393 rfl (lv_at hl 2 rfl) ?_
        refine lv_aload_n hx hb d_La_law_394 rfl (lv_at hl 0 rfl) ?_
        refine lv_iload_n hx hb d_La_law_395 rfl (lv_at hl 3 rfl) ?_
        refine lv_iconst (v := 1) hx hb d_La_law_396 (by decide) ?_
        refine lv_iadd hx hb d_La_law_397 ?_
        refine lv_topi (fun y_145 ey_145 => ?_)
        have ey_145 : y_145 = nI (i + 1) := by rw [ey_145]; first | rfl | (simp only [nk_set_0, nk_set_1, nk_set_2, nk_set_3, nk_set_4, nk_set_5, nk_set_6, nk_set_7, nk_set_12, nk_set_13, nk_set_18, pk_mul, nI_add]; done) | (simp only [nk_set_0, nk_set_1, nk_set_2, nk_set_3, nk_set_4, nk_set_5, nk_set_6, nk_set_7, nk_set_12, nk_set_13, nk_set_18, pk_mul, nI_add]; exact congrArg nI (by omega))
        subst ey_145
        refine va_sld hx hb hX hbl hbA hS (vp_in_nI (n := i + 1) (by omega) (by omega)) d_La_law_398 ?_
        refine lv_topi (fun y_146 ey_146 => ?_)
        rw [nI_clamp (by omega)] at ey_146
        subst ey_146
        refine lv_aload_n hx hb d_La_law_399 rfl (lv_at hl 0 rfl) ?_
        refine lv_iload_n hx hb d_La_law_400 rfl (lv_at hl 3 rfl) ?_
        refine lv_iconst (v := 2) hx hb d_La_law_401 (by decide) ?_
        refine lv_iadd hx hb d_La_law_402 ?_
        refine lv_topi (fun y_147 ey_147 => ?_)
        have ey_147 : y_147 = nI (i + 2) := by rw [ey_147]; first | rfl | (simp only [nk_set_0, nk_set_1, nk_set_2, nk_set_3, nk_set_4, nk_set_5, nk_set_6, nk_set_7, nk_set_12, nk_set_13, nk_set_18, pk_mul, nI_add]; done) | (simp only [nk_set_0, nk_set_1, nk_set_2, nk_set_3, nk_set_4, nk_set_5, nk_set_6, nk_set_7, nk_set_12, nk_set_13, nk_set_18, pk_mul, nI_add]; exact congrArg nI (by omega))
        subst ey_147
        refine va_sld hx hb hX hbl hbA hS (vp_in_nI (n := i + 2) (by omega) (by omega)) d_La_law_403 ?_
        refine lv_topi (fun y_148 ey_148 => ?_)
        rw [nI_clamp (by omega)] at ey_148
        subst ey_148
        have hPc := hP.sub (ws' := [(mo, .inr (3, [.int 0, .int (nI wn), .int (nI hn), .int fo, .ref mt, .ref mr, .int ma, .ref mx, .int mn, .ref mp, .ref mq, .int (nI ct)])), (mt, .inl (cJ, 18, .inr (.inl gif))), (mr, .inl (cJ, 120, .inr (.inl mrf))), (mx, .inl (cJ, 120, .inr (.inl mxf))), (mp, .inl (cJ, 324, .inr (.inl mpf))), (mq, .inl (cJ, 18, .inr (.inl mqf)))]) [13, 14, 15, 16, 17, 18] rfl
        have hDc := hD.sub (ws' := [(mo, .inr (3, [.int 0, .int (nI wn), .int (nI hn), .int fo, .ref mt, .ref mr, .int ma, .ref mx, .int mn, .ref mp, .ref mq, .int (nI ct)])), (mt, .inl (cJ, 18, .inr (.inl gif))), (mr, .inl (cJ, 120, .inr (.inl mrf))), (mx, .inl (cJ, 120, .inr (.inl mxf))), (mp, .inl (cJ, 324, .inr (.inl mpf))), (mq, .inl (cJ, 18, .inr (.inl mqf)))]) [13, 14, 15, 16, 17, 18] (by decide) rfl
        have hFc := va_free (wc := [(mo, .inr (3, [.int 0, .int (nI wn), .int (nI hn), .int fo, .ref mt, .ref mr, .int ma, .ref mx, .int mn, .ref mp, .ref mq, .int (nI ct)])), (mt, .inl (cJ, 18, .inr (.inl gif))), (mr, .inl (cJ, 120, .inr (.inl mrf))), (mx, .inl (cJ, 120, .inr (.inl mxf))), (mp, .inl (cJ, 324, .inr (.inl mpf))), (mq, .inl (cJ, 18, .inr (.inl mqf)))]) hD hS hA [13, 14, 15, 16, 17, 18] rfl
        refine va_calli (va_runV (As := [.int (xs (i + 1)), .int (xs (i + 2))]) (rest := [.int r_144]) ⟨hx, hb, hml, hown, hts⟩ (c_Mo_last l dC dI cJ cI H.size mo wn (nI hn) fo mt mr ma mx mn mp mq ct gif mrf mxf mpf mqf pn S T P (xs (i + 1)) (xs (i + 2)) hmo (by omega) hwh) (cwV 2 hts (gd_V wd_334 wd_335 wd_336 wd_37 wd_337) rfl rfl rfl (by decide +kernel) ⟨Nat.le_of_ble_eq_true rfl, Nat.le_of_ble_eq_true rfl⟩) ⟨fb_rw, va_recv hK hPc (ci := 3) (q0 := 0) rfl rfl, pre_rw hK hN hPc hDc⟩ rfl rfl hl.1 rfl (lv_room (Nat.le_of_ble_eq_true rfl)) d_La_law_404 ⟨Nat.le_of_ble_eq_true rfl, Nat.le_of_ble_eq_true rfl⟩) hS (fun q _ h => hFc q h) hFc (fun r_149 u t H locs ht hvm hw hB hz1 hk1 hS => ?_)
        obtain ⟨hP1, hD1⟩ := hB
        rw [ht] at hP1
        obtain ⟨hP, hD⟩ := va_join (wr := [(ob, .inr (0, [.int (nI wn), .int (nI hn), .int fo, .ref gi, .ref ke, .ref sp, .ref pi, .ref fa])), (gi, .inr (1, [.ref gia, .int 3])), (gia, .inl (cJ, 114, .inr (.inl gif))), (ke, .inr (1, [.ref kea, .int ken])), (kea, .inl (cJ, 114, .inr (.inl kef))), (sp, .inr (1, [.ref spa, .int spn])), (spa, .inl (cJ, 114, .inr (.inl spf))), (pi, .inr (1, [.ref pia, .int (nI pn)])), (pia, .inl (cJ, 114, .inr (.inl pif))), (fa, .inr (2, [.ref fas, .ref fat, .ref faa, .int (nI ct)])), (fas, .inl (cI, 17, .inl faS)), (fat, .inl (cI, 17, .inl faT)), (faa, .inl (cI, 17, .inl faA))]) (w1 := [(mo, .inr (3, [.int 0, .int (nI wn), .int (nI hn), .int fo, .ref mt, .ref mr, .int ma, .ref mx, .int mn, .ref mp, .ref mq, .int (nI ct)])), (mt, .inl (cJ, 18, .inr (.inl gif))), (mr, .inl (cJ, 120, .inr (.inl mrf))), (mx, .inl (cJ, 120, .inr (.inl mxf))), (mp, .inl (cJ, 324, .inr (.inl mpf))), (mq, .inl (cJ, 18, .inr (.inl mqf)))]) hP hD [13, 14, 15, 16, 17, 18] [0, 1, 2, 3, 4, 5, 6, 7, 8, 9, 10, 11, 12] rfl rfl (by decide) (by decide) hk1 hFc hP1 hD1
        have er_149 := hw
        have er_149 : r_149 = qa_last (nI wn) (nI hn) wn ct S T P (xs (i + 1)) (xs (i + 2)) := er_149
        have hP : va_P (dC, dI) cls4 [(ob, .inr (0, [.int (nI wn), .int (nI hn), .int fo, .ref gi, .ref ke, .ref sp, .ref pi, .ref fa])), (gi, .inr (1, [.ref gia, .int 3])), (gia, .inl (cJ, 114, .inr (.inl gif))), (ke, .inr (1, [.ref kea, .int ken])), (kea, .inl (cJ, 114, .inr (.inl kef))), (sp, .inr (1, [.ref spa, .int spn])), (spa, .inl (cJ, 114, .inr (.inl spf))), (pi, .inr (1, [.ref pia, .int (nI pn)])), (pia, .inl (cJ, 114, .inr (.inl pif))), (fa, .inr (2, [.ref fas, .ref fat, .ref faa, .int (nI ct)])), (fas, .inl (cI, 17, .inl faS)), (fat, .inl (cI, 17, .inl faT)), (faa, .inl (cI, 17, .inl faA)), (mo, .inr (3, [.int 0, .int (nI wn), .int (nI hn), .int fo, .ref mt, .ref mr, .int ma, .ref mx, .int mn, .ref mp, .ref mq, .int (nI ct)])), (mt, .inl (cJ, 18, .inr (.inl gif))), (mr, .inl (cJ, 120, .inr (.inl mrf))), (mx, .inl (cJ, 120, .inr (.inl mxf))), (mp, .inl (cJ, 324, .inr (.inl mpf))), (mq, .inl (cJ, 18, .inr (.inl mqf)))] H := hP
        have hD : va_D A [(ob, .inr (0, [.int (nI wn), .int (nI hn), .int fo, .ref gi, .ref ke, .ref sp, .ref pi, .ref fa])), (gi, .inr (1, [.ref gia, .int 3])), (gia, .inl (cJ, 114, .inr (.inl gif))), (ke, .inr (1, [.ref kea, .int ken])), (kea, .inl (cJ, 114, .inr (.inl kef))), (sp, .inr (1, [.ref spa, .int spn])), (spa, .inl (cJ, 114, .inr (.inl spf))), (pi, .inr (1, [.ref pia, .int (nI pn)])), (pia, .inl (cJ, 114, .inr (.inl pif))), (fa, .inr (2, [.ref fas, .ref fat, .ref faa, .int (nI ct)])), (fas, .inl (cI, 17, .inl faS)), (fat, .inl (cI, 17, .inl faT)), (faa, .inl (cI, 17, .inl faA)), (mo, .inr (3, [.int 0, .int (nI wn), .int (nI hn), .int fo, .ref mt, .ref mr, .int ma, .ref mx, .int mn, .ref mp, .ref mq, .int (nI ct)])), (mt, .inl (cJ, 18, .inr (.inl gif))), (mr, .inl (cJ, 120, .inr (.inl mrf))), (mx, .inl (cJ, 120, .inr (.inl mxf))), (mp, .inl (cJ, 324, .inr (.inl mpf))), (mq, .inl (cJ, 18, .inr (.inl mqf)))] := hD
        refine lv_icmp_eq (tgt := 541) hx hb d_La_law_407 (by decide) (fun c_150 => ?_) (fun c_150 => absurd (by rw [er_144, er_149]) c_150)
        refine lv_iinc (v := (nI (i + 5))) (lv' := [(3, .int (nI (i + 5))), (0, .ref b), (1, .ref ob), (2, .ref mo)]) hx hb d_La_law_541 hl (k := 3) rfl (nI_add i 5) (by decide) rfl (fun ls hl => ?_)
        refine lv_goto (tgt := 38) hx hb d_La_law_544 (by decide) ?_
        exact ih (i + 5) _ _ _ _ _ _ _ _ _ _ _ _ _ _ _ _ _ _ _ _ _ _ _ _ _ _ _ (by omega) (by omega) hfit hG hcl hmo _ _ hP hD hS ls (lv_sub hl [1, 2, 3, 0] rfl)
      · refine lv_tableIn (off := 360) (tgt := 412) hx hb d_La_law_52 (by decide) (by decide) (by decide) (by decide) ?_
        refine lv_aload_n hx hb d_La_law_412 rfl (lv_at hl 1 rfl) ?_
        refine lv_aload_n hx hb d_La_law_413 rfl (lv_at hl 0 rfl) ?_
        refine lv_iload_n hx hb d_La_law_414 rfl (lv_at hl 3 rfl) ?_
        refine lv_iconst (v := 1) hx hb d_La_law_415 (by decide) ?_
        refine lv_iadd hx hb d_La_law_416 ?_
        refine lv_topi (fun y_151 ey_151 => ?_)
        have ey_151 : y_151 = nI (i + 1) := by rw [ey_151]; first | rfl | (simp only [nk_set_0, nk_set_1, nk_set_2, nk_set_3, nk_set_4, nk_set_5, nk_set_6, nk_set_7, nk_set_12, nk_set_13, nk_set_18, pk_mul, nI_add]; done) | (simp only [nk_set_0, nk_set_1, nk_set_2, nk_set_3, nk_set_4, nk_set_5, nk_set_6, nk_set_7, nk_set_12, nk_set_13, nk_set_18, pk_mul, nI_add]; exact congrArg nI (by omega))
        subst ey_151
        refine va_sld hx hb hX hbl hbA hS (vp_in_nI (n := i + 1) (by omega) (by omega)) d_La_law_417 ?_
        refine lv_topi (fun y_152 ey_152 => ?_)
        rw [nI_clamp (by omega)] at ey_152
        subst ey_152
        refine lv_aload_n hx hb d_La_law_418 rfl (lv_at hl 0 rfl) ?_
        refine lv_iload_n hx hb d_La_law_419 rfl (lv_at hl 3 rfl) ?_
        refine lv_iconst (v := 2) hx hb d_La_law_420 (by decide) ?_
        refine lv_iadd hx hb d_La_law_421 ?_
        refine lv_topi (fun y_153 ey_153 => ?_)
        have ey_153 : y_153 = nI (i + 2) := by rw [ey_153]; first | rfl | (simp only [nk_set_0, nk_set_1, nk_set_2, nk_set_3, nk_set_4, nk_set_5, nk_set_6, nk_set_7, nk_set_12, nk_set_13, nk_set_18, pk_mul, nI_add]; done) | (simp only [nk_set_0, nk_set_1, nk_set_2, nk_set_3, nk_set_4, nk_set_5, nk_set_6, nk_set_7, nk_set_12, nk_set_13, nk_set_18, pk_mul, nI_add]; exact congrArg nI (by omega))
        subst ey_153
        refine va_sld hx hb hX hbl hbA hS (vp_in_nI (n := i + 2) (by omega) (by omega)) d_La_law_422 ?_
        refine lv_topi (fun y_154 ey_154 => ?_)
        rw [nI_clamp (by omega)] at ey_154
        subst ey_154
        refine lv_aload_n hx hb d_La_law_423 rfl (lv_at hl 0 rfl) ?_
        refine lv_iload_n hx hb d_La_law_424 rfl (lv_at hl 3 rfl) ?_
        refine lv_iconst (v := 3) hx hb d_La_law_425 (by decide) ?_
        refine lv_iadd hx hb d_La_law_426 ?_
        refine lv_topi (fun y_155 ey_155 => ?_)
        have ey_155 : y_155 = nI (i + 3) := by rw [ey_155]; first | rfl | (simp only [nk_set_0, nk_set_1, nk_set_2, nk_set_3, nk_set_4, nk_set_5, nk_set_6, nk_set_7, nk_set_12, nk_set_13, nk_set_18, pk_mul, nI_add]; done) | (simp only [nk_set_0, nk_set_1, nk_set_2, nk_set_3, nk_set_4, nk_set_5, nk_set_6, nk_set_7, nk_set_12, nk_set_13, nk_set_18, pk_mul, nI_add]; exact congrArg nI (by omega))
        subst ey_155
        refine va_sld hx hb hX hbl hbA hS (vp_in_nI (n := i + 3) (by omega) (by omega)) d_La_law_427 ?_
        refine lv_topi (fun y_156 ey_156 => ?_)
        rw [nI_clamp (by omega)] at ey_156
        subst ey_156
        have hPc := hP.sub (ws' := [(ob, .inr (0, [.int (nI wn), .int (nI hn), .int fo, .ref gi, .ref ke, .ref sp, .ref pi, .ref fa])), (gi, .inr (1, [.ref gia, .int 3])), (gia, .inl (cJ, 114, .inr (.inl gif))), (ke, .inr (1, [.ref kea, .int ken])), (kea, .inl (cJ, 114, .inr (.inl kef))), (sp, .inr (1, [.ref spa, .int spn])), (spa, .inl (cJ, 114, .inr (.inl spf))), (pi, .inr (1, [.ref pia, .int (nI pn)])), (pia, .inl (cJ, 114, .inr (.inl pif))), (fa, .inr (2, [.ref fas, .ref fat, .ref faa, .int (nI ct)])), (fas, .inl (cI, 17, .inl faS)), (fat, .inl (cI, 17, .inl faT)), (faa, .inl (cI, 17, .inl faA))]) [0, 1, 2, 3, 4, 5, 6, 7, 8, 9, 10, 11, 12] rfl
        refine vp_callSi (va_Run.run (va_runV (As := [.int (xs (i + 1)), .int (xs (i + 2)), .int (xs (i + 3))]) (rest := []) ⟨hx, hb, hml, hown, hts⟩ (k_PC_near l dC dI cJ cI ob (nI wn) (nI hn) fo gi gia 3 gif ke kea ken kef sp spa spn spf pi pia (nI pn) pif fa fas fat faa (nI ct) faS faT faA ct pn S T P (xs (i + 1)) (xs (i + 2)) (xs (i + 3)) hcl) (cwV 3 hts (gd_V wd_209 wd_210 wd_211 wd_33 wd_212) rfl rfl rfl (by decide +kernel) ⟨Nat.le_of_ble_eq_true rfl, Nat.le_of_ble_eq_true rfl⟩) ⟨fb_ro, va_recv hK hPc (ci := 0) (q0 := 0) rfl rfl, pre_ro hK hN hPc⟩ rfl rfl hl.1 rfl (lv_room (Nat.le_of_ble_eq_true rfl)) d_La_law_428 ⟨Nat.le_of_ble_eq_true rfl, Nat.le_of_ble_eq_true rfl⟩)) (fun r_157 er_157 => ?_)
        have er_157 : r_157 = qa_near (nI wn) (nI hn) ct S T P (xs (i + 1)) (xs (i + 2)) (xs (i + 3)) := er_157
        refine lv_aload_n hx hb d_La_law_431 rfl (lv_at hl 2 rfl) ?_
        refine lv_aload_n hx hb d_La_law_432 rfl (lv_at hl 0 rfl) ?_
        refine lv_iload_n hx hb d_La_law_433 rfl (lv_at hl 3 rfl) ?_
        refine lv_iconst (v := 1) hx hb d_La_law_434 (by decide) ?_
        refine lv_iadd hx hb d_La_law_435 ?_
        refine lv_topi (fun y_158 ey_158 => ?_)
        have ey_158 : y_158 = nI (i + 1) := by rw [ey_158]; first | rfl | (simp only [nk_set_0, nk_set_1, nk_set_2, nk_set_3, nk_set_4, nk_set_5, nk_set_6, nk_set_7, nk_set_12, nk_set_13, nk_set_18, pk_mul, nI_add]; done) | (simp only [nk_set_0, nk_set_1, nk_set_2, nk_set_3, nk_set_4, nk_set_5, nk_set_6, nk_set_7, nk_set_12, nk_set_13, nk_set_18, pk_mul, nI_add]; exact congrArg nI (by omega))
        subst ey_158
        refine va_sld hx hb hX hbl hbA hS (vp_in_nI (n := i + 1) (by omega) (by omega)) d_La_law_436 ?_
        refine lv_topi (fun y_159 ey_159 => ?_)
        rw [nI_clamp (by omega)] at ey_159
        subst ey_159
        refine lv_aload_n hx hb d_La_law_437 rfl (lv_at hl 0 rfl) ?_
        refine lv_iload_n hx hb d_La_law_438 rfl (lv_at hl 3 rfl) ?_
        refine lv_iconst (v := 2) hx hb d_La_law_439 (by decide) ?_
        refine lv_iadd hx hb d_La_law_440 ?_
        refine lv_topi (fun y_160 ey_160 => ?_)
        have ey_160 : y_160 = nI (i + 2) := by rw [ey_160]; first | rfl | (simp only [nk_set_0, nk_set_1, nk_set_2, nk_set_3, nk_set_4, nk_set_5, nk_set_6, nk_set_7, nk_set_12, nk_set_13, nk_set_18, pk_mul, nI_add]; done) | (simp only [nk_set_0, nk_set_1, nk_set_2, nk_set_3, nk_set_4, nk_set_5, nk_set_6, nk_set_7, nk_set_12, nk_set_13, nk_set_18, pk_mul, nI_add]; exact congrArg nI (by omega))
        subst ey_160
        refine va_sld hx hb hX hbl hbA hS (vp_in_nI (n := i + 2) (by omega) (by omega)) d_La_law_441 ?_
        refine lv_topi (fun y_161 ey_161 => ?_)
        rw [nI_clamp (by omega)] at ey_161
        subst ey_161
        refine lv_aload_n hx hb d_La_law_442 rfl (lv_at hl 0 rfl) ?_
        refine lv_iload_n hx hb d_La_law_443 rfl (lv_at hl 3 rfl) ?_
        refine lv_iconst (v := 3) hx hb d_La_law_444 (by decide) ?_
        refine lv_iadd hx hb d_La_law_445 ?_
        refine lv_topi (fun y_162 ey_162 => ?_)
        have ey_162 : y_162 = nI (i + 3) := by rw [ey_162]; first | rfl | (simp only [nk_set_0, nk_set_1, nk_set_2, nk_set_3, nk_set_4, nk_set_5, nk_set_6, nk_set_7, nk_set_12, nk_set_13, nk_set_18, pk_mul, nI_add]; done) | (simp only [nk_set_0, nk_set_1, nk_set_2, nk_set_3, nk_set_4, nk_set_5, nk_set_6, nk_set_7, nk_set_12, nk_set_13, nk_set_18, pk_mul, nI_add]; exact congrArg nI (by omega))
        subst ey_162
        refine va_sld hx hb hX hbl hbA hS (vp_in_nI (n := i + 3) (by omega) (by omega)) d_La_law_446 ?_
        refine lv_topi (fun y_163 ey_163 => ?_)
        rw [nI_clamp (by omega)] at ey_163
        subst ey_163
        have hPc := hP.sub (ws' := [(mo, .inr (3, [.int 0, .int (nI wn), .int (nI hn), .int fo, .ref mt, .ref mr, .int ma, .ref mx, .int mn, .ref mp, .ref mq, .int (nI ct)])), (mt, .inl (cJ, 18, .inr (.inl gif))), (mr, .inl (cJ, 120, .inr (.inl mrf))), (mx, .inl (cJ, 120, .inr (.inl mxf))), (mp, .inl (cJ, 324, .inr (.inl mpf))), (mq, .inl (cJ, 18, .inr (.inl mqf)))]) [13, 14, 15, 16, 17, 18] rfl
        have hDc := hD.sub (ws' := [(mo, .inr (3, [.int 0, .int (nI wn), .int (nI hn), .int fo, .ref mt, .ref mr, .int ma, .ref mx, .int mn, .ref mp, .ref mq, .int (nI ct)])), (mt, .inl (cJ, 18, .inr (.inl gif))), (mr, .inl (cJ, 120, .inr (.inl mrf))), (mx, .inl (cJ, 120, .inr (.inl mxf))), (mp, .inl (cJ, 324, .inr (.inl mpf))), (mq, .inl (cJ, 18, .inr (.inl mqf)))]) [13, 14, 15, 16, 17, 18] (by decide) rfl
        have hFc := va_free (wc := [(mo, .inr (3, [.int 0, .int (nI wn), .int (nI hn), .int fo, .ref mt, .ref mr, .int ma, .ref mx, .int mn, .ref mp, .ref mq, .int (nI ct)])), (mt, .inl (cJ, 18, .inr (.inl gif))), (mr, .inl (cJ, 120, .inr (.inl mrf))), (mx, .inl (cJ, 120, .inr (.inl mxf))), (mp, .inl (cJ, 324, .inr (.inl mpf))), (mq, .inl (cJ, 18, .inr (.inl mqf)))]) hD hS hA [13, 14, 15, 16, 17, 18] rfl
        refine va_calli (va_runV (As := [.int (xs (i + 1)), .int (xs (i + 2)), .int (xs (i + 3))]) (rest := [.int r_157]) ⟨hx, hb, hml, hown, hts⟩ (k_Mo_near l dC dI cJ cI H.size mo (nI wn) (nI hn) fo mt mr ma mx mn mp mq ct gif mrf mxf mpf mqf pn S T P (xs (i + 1)) (xs (i + 2)) (xs (i + 3)) hmo hwh) (cwV 3 hts (gd_V wd_338 wd_339 wd_340 wd_37 wd_341) rfl rfl rfl (by decide +kernel) ⟨Nat.le_of_ble_eq_true rfl, Nat.le_of_ble_eq_true rfl⟩) ⟨fb_rw, va_recv hK hPc (ci := 3) (q0 := 0) rfl rfl, pre_rw hK hN hPc hDc⟩ rfl rfl hl.1 rfl (lv_room (Nat.le_of_ble_eq_true rfl)) d_La_law_447 ⟨Nat.le_of_ble_eq_true rfl, Nat.le_of_ble_eq_true rfl⟩) hS (fun q _ h => hFc q h) hFc (fun r_164 u t H locs ht hvm hw hB hz1 hk1 hS => ?_)
        obtain ⟨hP1, hD1⟩ := hB
        rw [ht] at hP1
        obtain ⟨hP, hD⟩ := va_join (wr := [(ob, .inr (0, [.int (nI wn), .int (nI hn), .int fo, .ref gi, .ref ke, .ref sp, .ref pi, .ref fa])), (gi, .inr (1, [.ref gia, .int 3])), (gia, .inl (cJ, 114, .inr (.inl gif))), (ke, .inr (1, [.ref kea, .int ken])), (kea, .inl (cJ, 114, .inr (.inl kef))), (sp, .inr (1, [.ref spa, .int spn])), (spa, .inl (cJ, 114, .inr (.inl spf))), (pi, .inr (1, [.ref pia, .int (nI pn)])), (pia, .inl (cJ, 114, .inr (.inl pif))), (fa, .inr (2, [.ref fas, .ref fat, .ref faa, .int (nI ct)])), (fas, .inl (cI, 17, .inl faS)), (fat, .inl (cI, 17, .inl faT)), (faa, .inl (cI, 17, .inl faA))]) (w1 := [(mo, .inr (3, [.int 0, .int (nI wn), .int (nI hn), .int fo, .ref mt, .ref mr, .int ma, .ref mx, .int mn, .ref mp, .ref mq, .int (nI ct)])), (mt, .inl (cJ, 18, .inr (.inl gif))), (mr, .inl (cJ, 120, .inr (.inl mrf))), (mx, .inl (cJ, 120, .inr (.inl mxf))), (mp, .inl (cJ, 324, .inr (.inl mpf))), (mq, .inl (cJ, 18, .inr (.inl mqf)))]) hP hD [13, 14, 15, 16, 17, 18] [0, 1, 2, 3, 4, 5, 6, 7, 8, 9, 10, 11, 12] rfl rfl (by decide) (by decide) hk1 hFc hP1 hD1
        have er_164 := hw
        have er_164 : r_164 = qa_near (nI wn) (nI hn) ct S T P (xs (i + 1)) (xs (i + 2)) (xs (i + 3)) := er_164
        have hP : va_P (dC, dI) cls4 [(ob, .inr (0, [.int (nI wn), .int (nI hn), .int fo, .ref gi, .ref ke, .ref sp, .ref pi, .ref fa])), (gi, .inr (1, [.ref gia, .int 3])), (gia, .inl (cJ, 114, .inr (.inl gif))), (ke, .inr (1, [.ref kea, .int ken])), (kea, .inl (cJ, 114, .inr (.inl kef))), (sp, .inr (1, [.ref spa, .int spn])), (spa, .inl (cJ, 114, .inr (.inl spf))), (pi, .inr (1, [.ref pia, .int (nI pn)])), (pia, .inl (cJ, 114, .inr (.inl pif))), (fa, .inr (2, [.ref fas, .ref fat, .ref faa, .int (nI ct)])), (fas, .inl (cI, 17, .inl faS)), (fat, .inl (cI, 17, .inl faT)), (faa, .inl (cI, 17, .inl faA)), (mo, .inr (3, [.int 0, .int (nI wn), .int (nI hn), .int fo, .ref mt, .ref mr, .int ma, .ref mx, .int mn, .ref mp, .ref mq, .int (nI ct)])), (mt, .inl (cJ, 18, .inr (.inl gif))), (mr, .inl (cJ, 120, .inr (.inl mrf))), (mx, .inl (cJ, 120, .inr (.inl mxf))), (mp, .inl (cJ, 324, .inr (.inl mpf))), (mq, .inl (cJ, 18, .inr (.inl mqf)))] H := hP
        have hD : va_D A [(ob, .inr (0, [.int (nI wn), .int (nI hn), .int fo, .ref gi, .ref ke, .ref sp, .ref pi, .ref fa])), (gi, .inr (1, [.ref gia, .int 3])), (gia, .inl (cJ, 114, .inr (.inl gif))), (ke, .inr (1, [.ref kea, .int ken])), (kea, .inl (cJ, 114, .inr (.inl kef))), (sp, .inr (1, [.ref spa, .int spn])), (spa, .inl (cJ, 114, .inr (.inl spf))), (pi, .inr (1, [.ref pia, .int (nI pn)])), (pia, .inl (cJ, 114, .inr (.inl pif))), (fa, .inr (2, [.ref fas, .ref fat, .ref faa, .int (nI ct)])), (fas, .inl (cI, 17, .inl faS)), (fat, .inl (cI, 17, .inl faT)), (faa, .inl (cI, 17, .inl faA)), (mo, .inr (3, [.int 0, .int (nI wn), .int (nI hn), .int fo, .ref mt, .ref mr, .int ma, .ref mx, .int mn, .ref mp, .ref mq, .int (nI ct)])), (mt, .inl (cJ, 18, .inr (.inl gif))), (mr, .inl (cJ, 120, .inr (.inl mrf))), (mx, .inl (cJ, 120, .inr (.inl mxf))), (mp, .inl (cJ, 324, .inr (.inl mpf))), (mq, .inl (cJ, 18, .inr (.inl mqf)))] := hD
        refine lv_icmp_eq (tgt := 541) hx hb d_La_law_450 (by decide) (fun c_165 => ?_) (fun c_165 => absurd (by rw [er_157, er_164]) c_165)
        refine lv_iinc (v := (nI (i + 5))) (lv' := [(3, .int (nI (i + 5))), (0, .ref b), (1, .ref ob), (2, .ref mo)]) hx hb d_La_law_541 hl (k := 3) rfl (nI_add i 5) (by decide) rfl (fun ls hl => ?_)
        refine lv_goto (tgt := 38) hx hb d_La_law_544 (by decide) ?_
        exact ih (i + 5) _ _ _ _ _ _ _ _ _ _ _ _ _ _ _ _ _ _ _ _ _ _ _ _ _ _ _ (by omega) (by omega) hfit hG hcl hmo _ _ hP hD hS ls (lv_sub hl [1, 2, 3, 0] rfl)
      · refine lv_tableIn (off := 403) (tgt := 455) hx hb d_La_law_52 (by decide) (by decide) (by decide) (by decide) ?_
        refine lv_aload_n hx hb d_La_law_455 rfl (lv_at hl 1 rfl) ?_
        refine lv_aload_n hx hb d_La_law_456 rfl (lv_at hl 0 rfl) ?_
        refine lv_iload_n hx hb d_La_law_457 rfl (lv_at hl 3 rfl) ?_
        refine lv_iconst (v := 1) hx hb d_La_law_458 (by decide) ?_
        refine lv_iadd hx hb d_La_law_459 ?_
        refine lv_topi (fun y_166 ey_166 => ?_)
        have ey_166 : y_166 = nI (i + 1) := by rw [ey_166]; first | rfl | (simp only [nk_set_0, nk_set_1, nk_set_2, nk_set_3, nk_set_4, nk_set_5, nk_set_6, nk_set_7, nk_set_12, nk_set_13, nk_set_18, pk_mul, nI_add]; done) | (simp only [nk_set_0, nk_set_1, nk_set_2, nk_set_3, nk_set_4, nk_set_5, nk_set_6, nk_set_7, nk_set_12, nk_set_13, nk_set_18, pk_mul, nI_add]; exact congrArg nI (by omega))
        subst ey_166
        refine va_sld hx hb hX hbl hbA hS (vp_in_nI (n := i + 1) (by omega) (by omega)) d_La_law_460 ?_
        refine lv_topi (fun y_167 ey_167 => ?_)
        rw [nI_clamp (by omega)] at ey_167
        subst ey_167
        refine lv_aload_n hx hb d_La_law_461 rfl (lv_at hl 0 rfl) ?_
        refine lv_iload_n hx hb d_La_law_462 rfl (lv_at hl 3 rfl) ?_
        refine lv_iconst (v := 2) hx hb d_La_law_463 (by decide) ?_
        refine lv_iadd hx hb d_La_law_464 ?_
        refine lv_topi (fun y_168 ey_168 => ?_)
        have ey_168 : y_168 = nI (i + 2) := by rw [ey_168]; first | rfl | (simp only [nk_set_0, nk_set_1, nk_set_2, nk_set_3, nk_set_4, nk_set_5, nk_set_6, nk_set_7, nk_set_12, nk_set_13, nk_set_18, pk_mul, nI_add]; done) | (simp only [nk_set_0, nk_set_1, nk_set_2, nk_set_3, nk_set_4, nk_set_5, nk_set_6, nk_set_7, nk_set_12, nk_set_13, nk_set_18, pk_mul, nI_add]; exact congrArg nI (by omega))
        subst ey_168
        refine va_sld hx hb hX hbl hbA hS (vp_in_nI (n := i + 2) (by omega) (by omega)) d_La_law_465 ?_
        refine lv_topi (fun y_169 ey_169 => ?_)
        rw [nI_clamp (by omega)] at ey_169
        subst ey_169
        refine lv_aload_n hx hb d_La_law_466 rfl (lv_at hl 0 rfl) ?_
        refine lv_iload_n hx hb d_La_law_467 rfl (lv_at hl 3 rfl) ?_
        refine lv_iconst (v := 3) hx hb d_La_law_468 (by decide) ?_
        refine lv_iadd hx hb d_La_law_469 ?_
        refine lv_topi (fun y_170 ey_170 => ?_)
        have ey_170 : y_170 = nI (i + 3) := by rw [ey_170]; first | rfl | (simp only [nk_set_0, nk_set_1, nk_set_2, nk_set_3, nk_set_4, nk_set_5, nk_set_6, nk_set_7, nk_set_12, nk_set_13, nk_set_18, pk_mul, nI_add]; done) | (simp only [nk_set_0, nk_set_1, nk_set_2, nk_set_3, nk_set_4, nk_set_5, nk_set_6, nk_set_7, nk_set_12, nk_set_13, nk_set_18, pk_mul, nI_add]; exact congrArg nI (by omega))
        subst ey_170
        refine va_sld hx hb hX hbl hbA hS (vp_in_nI (n := i + 3) (by omega) (by omega)) d_La_law_470 ?_
        refine lv_topi (fun y_171 ey_171 => ?_)
        rw [nI_clamp (by omega)] at ey_171
        subst ey_171
        refine lv_aload_n hx hb d_La_law_471 rfl (lv_at hl 0 rfl) ?_
        refine lv_iload_n hx hb d_La_law_472 rfl (lv_at hl 3 rfl) ?_
        refine lv_iconst (v := 4) hx hb d_La_law_473 (by decide) ?_
        refine lv_iadd hx hb d_La_law_474 ?_
        refine lv_topi (fun y_172 ey_172 => ?_)
        have ey_172 : y_172 = nI (i + 4) := by rw [ey_172]; first | rfl | (simp only [nk_set_0, nk_set_1, nk_set_2, nk_set_3, nk_set_4, nk_set_5, nk_set_6, nk_set_7, nk_set_12, nk_set_13, nk_set_18, pk_mul, nI_add]; done) | (simp only [nk_set_0, nk_set_1, nk_set_2, nk_set_3, nk_set_4, nk_set_5, nk_set_6, nk_set_7, nk_set_12, nk_set_13, nk_set_18, pk_mul, nI_add]; exact congrArg nI (by omega))
        subst ey_172
        refine va_sld hx hb hX hbl hbA hS (vp_in_nI (n := i + 4) (by omega) (by omega)) d_La_law_475 ?_
        refine lv_topi (fun y_173 ey_173 => ?_)
        rw [nI_clamp (by omega)] at ey_173
        subst ey_173
        have hPc := hP.sub (ws' := [(ob, .inr (0, [.int (nI wn), .int (nI hn), .int fo, .ref gi, .ref ke, .ref sp, .ref pi, .ref fa])), (gi, .inr (1, [.ref gia, .int 3])), (gia, .inl (cJ, 114, .inr (.inl gif))), (ke, .inr (1, [.ref kea, .int ken])), (kea, .inl (cJ, 114, .inr (.inl kef))), (sp, .inr (1, [.ref spa, .int spn])), (spa, .inl (cJ, 114, .inr (.inl spf))), (pi, .inr (1, [.ref pia, .int (nI pn)])), (pia, .inl (cJ, 114, .inr (.inl pif))), (fa, .inr (2, [.ref fas, .ref fat, .ref faa, .int (nI ct)])), (fas, .inl (cI, 17, .inl faS)), (fat, .inl (cI, 17, .inl faT)), (faa, .inl (cI, 17, .inl faA))]) [0, 1, 2, 3, 4, 5, 6, 7, 8, 9, 10, 11, 12] rfl
        refine vp_callSi (va_Run.run (va_runV (As := [.int (xs (i + 1)), .int (xs (i + 2)), .int (xs (i + 3)), .int (xs (i + 4))]) (rest := []) ⟨hx, hb, hml, hown, hts⟩ (k_PC_number l dC dI cJ cI ob (nI wn) (nI hn) fo gi gia 3 gif ke kea ken kef sp spa spn spf pi pia (nI pn) pif fa fas fat faa (nI ct) faS faT faA ct pn S T P (xs (i + 1)) (xs (i + 2)) (xs (i + 3)) (xs (i + 4)) hcl hwh.1.2 hwh.2.2) (cwV 4 hts (gd_V wd_220 wd_221 wd_222 wd_33 wd_223) rfl rfl rfl (by decide +kernel) ⟨Nat.le_of_ble_eq_true rfl, Nat.le_of_ble_eq_true rfl⟩) ⟨fb_ro, va_recv hK hPc (ci := 0) (q0 := 0) rfl rfl, pre_ro hK hN hPc⟩ rfl rfl hl.1 rfl (lv_room (Nat.le_of_ble_eq_true rfl)) d_La_law_476 ⟨Nat.le_of_ble_eq_true rfl, Nat.le_of_ble_eq_true rfl⟩)) (fun r_174 er_174 => ?_)
        have er_174 : r_174 = qa_number (nI wn) (nI hn) ct S T P (xs (i + 1)) (xs (i + 2)) (xs (i + 3)) (xs (i + 4)) := er_174
        refine lv_aload_n hx hb d_La_law_479 rfl (lv_at hl 2 rfl) ?_
        refine lv_aload_n hx hb d_La_law_480 rfl (lv_at hl 0 rfl) ?_
        refine lv_iload_n hx hb d_La_law_481 rfl (lv_at hl 3 rfl) ?_
        refine lv_iconst (v := 1) hx hb d_La_law_482 (by decide) ?_
        refine lv_iadd hx hb d_La_law_483 ?_
        refine lv_topi (fun y_175 ey_175 => ?_)
        have ey_175 : y_175 = nI (i + 1) := by rw [ey_175]; first | rfl | (simp only [nk_set_0, nk_set_1, nk_set_2, nk_set_3, nk_set_4, nk_set_5, nk_set_6, nk_set_7, nk_set_12, nk_set_13, nk_set_18, pk_mul, nI_add]; done) | (simp only [nk_set_0, nk_set_1, nk_set_2, nk_set_3, nk_set_4, nk_set_5, nk_set_6, nk_set_7, nk_set_12, nk_set_13, nk_set_18, pk_mul, nI_add]; exact congrArg nI (by omega))
        subst ey_175
        refine va_sld hx hb hX hbl hbA hS (vp_in_nI (n := i + 1) (by omega) (by omega)) d_La_law_484 ?_
        refine lv_topi (fun y_176 ey_176 => ?_)
        rw [nI_clamp (by omega)] at ey_176
        subst ey_176
        refine lv_aload_n hx hb d_La_law_485 rfl (lv_at hl 0 rfl) ?_
        refine lv_iload_n hx hb d_La_law_486 rfl (lv_at hl 3 rfl) ?_
        refine lv_iconst (v := 2) hx hb d_La_law_487 (by decide) ?_
        refine lv_iadd hx hb d_La_law_488 ?_
        refine lv_topi (fun y_177 ey_177 => ?_)
        have ey_177 : y_177 = nI (i + 2) := by rw [ey_177]; first | rfl | (simp only [nk_set_0, nk_set_1, nk_set_2, nk_set_3, nk_set_4, nk_set_5, nk_set_6, nk_set_7, nk_set_12, nk_set_13, nk_set_18, pk_mul, nI_add]; done) | (simp only [nk_set_0, nk_set_1, nk_set_2, nk_set_3, nk_set_4, nk_set_5, nk_set_6, nk_set_7, nk_set_12, nk_set_13, nk_set_18, pk_mul, nI_add]; exact congrArg nI (by omega))
        subst ey_177
        refine va_sld hx hb hX hbl hbA hS (vp_in_nI (n := i + 2) (by omega) (by omega)) d_La_law_489 ?_
        refine lv_topi (fun y_178 ey_178 => ?_)
        rw [nI_clamp (by omega)] at ey_178
        subst ey_178
        refine lv_aload_n hx hb d_La_law_490 rfl (lv_at hl 0 rfl) ?_
        refine lv_iload_n hx hb d_La_law_491 rfl (lv_at hl 3 rfl) ?_
        refine lv_iconst (v := 3) hx hb d_La_law_492 (by decide) ?_
        refine lv_iadd hx hb d_La_law_493 ?_
        refine lv_topi (fun y_179 ey_179 => ?_)
        have ey_179 : y_179 = nI (i + 3) := by rw [ey_179]; first | rfl | (simp only [nk_set_0, nk_set_1, nk_set_2, nk_set_3, nk_set_4, nk_set_5, nk_set_6, nk_set_7, nk_set_12, nk_set_13, nk_set_18, pk_mul, nI_add]; done) | (simp only [nk_set_0, nk_set_1, nk_set_2, nk_set_3, nk_set_4, nk_set_5, nk_set_6, nk_set_7, nk_set_12, nk_set_13, nk_set_18, pk_mul, nI_add]; exact congrArg nI (by omega))
        subst ey_179
        refine va_sld hx hb hX hbl hbA hS (vp_in_nI (n := i + 3) (by omega) (by omega)) d_La_law_494 ?_
        refine lv_topi (fun y_180 ey_180 => ?_)
        rw [nI_clamp (by omega)] at ey_180
        subst ey_180
        refine lv_aload_n hx hb d_La_law_495 rfl (lv_at hl 0 rfl) ?_
        refine lv_iload_n hx hb d_La_law_496 rfl (lv_at hl 3 rfl) ?_
        refine lv_iconst (v := 4) hx hb d_La_law_497 (by decide) ?_
        refine lv_iadd hx hb d_La_law_498 ?_
        refine lv_topi (fun y_181 ey_181 => ?_)
        have ey_181 : y_181 = nI (i + 4) := by rw [ey_181]; first | rfl | (simp only [nk_set_0, nk_set_1, nk_set_2, nk_set_3, nk_set_4, nk_set_5, nk_set_6, nk_set_7, nk_set_12, nk_set_13, nk_set_18, pk_mul, nI_add]; done) | (simp only [nk_set_0, nk_set_1, nk_set_2, nk_set_3, nk_set_4, nk_set_5, nk_set_6, nk_set_7, nk_set_12, nk_set_13, nk_set_18, pk_mul, nI_add]; exact congrArg nI (by omega))
        subst ey_181
        refine va_sld hx hb hX hbl hbA hS (vp_in_nI (n := i + 4) (by omega) (by omega)) d_La_law_499 ?_
        refine lv_topi (fun y_182 ey_182 => ?_)
        rw [nI_clamp (by omega)] at ey_182
        subst ey_182
        have hPc := hP.sub (ws' := [(mo, .inr (3, [.int 0, .int (nI wn), .int (nI hn), .int fo, .ref mt, .ref mr, .int ma, .ref mx, .int mn, .ref mp, .ref mq, .int (nI ct)])), (mt, .inl (cJ, 18, .inr (.inl gif))), (mr, .inl (cJ, 120, .inr (.inl mrf))), (mx, .inl (cJ, 120, .inr (.inl mxf))), (mp, .inl (cJ, 324, .inr (.inl mpf))), (mq, .inl (cJ, 18, .inr (.inl mqf)))]) [13, 14, 15, 16, 17, 18] rfl
        have hDc := hD.sub (ws' := [(mo, .inr (3, [.int 0, .int (nI wn), .int (nI hn), .int fo, .ref mt, .ref mr, .int ma, .ref mx, .int mn, .ref mp, .ref mq, .int (nI ct)])), (mt, .inl (cJ, 18, .inr (.inl gif))), (mr, .inl (cJ, 120, .inr (.inl mrf))), (mx, .inl (cJ, 120, .inr (.inl mxf))), (mp, .inl (cJ, 324, .inr (.inl mpf))), (mq, .inl (cJ, 18, .inr (.inl mqf)))]) [13, 14, 15, 16, 17, 18] (by decide) rfl
        have hFc := va_free (wc := [(mo, .inr (3, [.int 0, .int (nI wn), .int (nI hn), .int fo, .ref mt, .ref mr, .int ma, .ref mx, .int mn, .ref mp, .ref mq, .int (nI ct)])), (mt, .inl (cJ, 18, .inr (.inl gif))), (mr, .inl (cJ, 120, .inr (.inl mrf))), (mx, .inl (cJ, 120, .inr (.inl mxf))), (mp, .inl (cJ, 324, .inr (.inl mpf))), (mq, .inl (cJ, 18, .inr (.inl mqf)))]) hD hS hA [13, 14, 15, 16, 17, 18] rfl
        refine va_calli (va_runV (As := [.int (xs (i + 1)), .int (xs (i + 2)), .int (xs (i + 3)), .int (xs (i + 4))]) (rest := [.int r_174]) ⟨hx, hb, hml, hown, hts⟩ (k_Mo_number l dC dI cJ cI H.size mo (nI wn) (nI hn) fo mt mr ma mx mn mp mq ct gif mrf mxf mpf mqf pn S T P (xs (i + 1)) (xs (i + 2)) (xs (i + 3)) (xs (i + 4)) hmo hwh) (cwV 4 hts (gd_V wd_345 wd_346 wd_347 wd_37 wd_348) rfl rfl rfl (by decide +kernel) ⟨Nat.le_of_ble_eq_true rfl, Nat.le_of_ble_eq_true rfl⟩) ⟨fb_rw, va_recv hK hPc (ci := 3) (q0 := 0) rfl rfl, pre_rw hK hN hPc hDc⟩ rfl rfl hl.1 rfl (lv_room (Nat.le_of_ble_eq_true rfl)) d_La_law_500 ⟨Nat.le_of_ble_eq_true rfl, Nat.le_of_ble_eq_true rfl⟩) hS (fun q _ h => hFc q h) hFc (fun r_183 u t H locs ht hvm hw hB hz1 hk1 hS => ?_)
        obtain ⟨hP1, hD1⟩ := hB
        rw [ht] at hP1
        obtain ⟨hP, hD⟩ := va_join (wr := [(ob, .inr (0, [.int (nI wn), .int (nI hn), .int fo, .ref gi, .ref ke, .ref sp, .ref pi, .ref fa])), (gi, .inr (1, [.ref gia, .int 3])), (gia, .inl (cJ, 114, .inr (.inl gif))), (ke, .inr (1, [.ref kea, .int ken])), (kea, .inl (cJ, 114, .inr (.inl kef))), (sp, .inr (1, [.ref spa, .int spn])), (spa, .inl (cJ, 114, .inr (.inl spf))), (pi, .inr (1, [.ref pia, .int (nI pn)])), (pia, .inl (cJ, 114, .inr (.inl pif))), (fa, .inr (2, [.ref fas, .ref fat, .ref faa, .int (nI ct)])), (fas, .inl (cI, 17, .inl faS)), (fat, .inl (cI, 17, .inl faT)), (faa, .inl (cI, 17, .inl faA))]) (w1 := [(mo, .inr (3, [.int 0, .int (nI wn), .int (nI hn), .int fo, .ref mt, .ref mr, .int ma, .ref mx, .int mn, .ref mp, .ref mq, .int (nI ct)])), (mt, .inl (cJ, 18, .inr (.inl gif))), (mr, .inl (cJ, 120, .inr (.inl mrf))), (mx, .inl (cJ, 120, .inr (.inl mxf))), (mp, .inl (cJ, 324, .inr (.inl mpf))), (mq, .inl (cJ, 18, .inr (.inl mqf)))]) hP hD [13, 14, 15, 16, 17, 18] [0, 1, 2, 3, 4, 5, 6, 7, 8, 9, 10, 11, 12] rfl rfl (by decide) (by decide) hk1 hFc hP1 hD1
        have er_183 := hw
        have er_183 : r_183 = qa_number (nI wn) (nI hn) ct S T P (xs (i + 1)) (xs (i + 2)) (xs (i + 3)) (xs (i + 4)) := er_183
        have hP : va_P (dC, dI) cls4 [(ob, .inr (0, [.int (nI wn), .int (nI hn), .int fo, .ref gi, .ref ke, .ref sp, .ref pi, .ref fa])), (gi, .inr (1, [.ref gia, .int 3])), (gia, .inl (cJ, 114, .inr (.inl gif))), (ke, .inr (1, [.ref kea, .int ken])), (kea, .inl (cJ, 114, .inr (.inl kef))), (sp, .inr (1, [.ref spa, .int spn])), (spa, .inl (cJ, 114, .inr (.inl spf))), (pi, .inr (1, [.ref pia, .int (nI pn)])), (pia, .inl (cJ, 114, .inr (.inl pif))), (fa, .inr (2, [.ref fas, .ref fat, .ref faa, .int (nI ct)])), (fas, .inl (cI, 17, .inl faS)), (fat, .inl (cI, 17, .inl faT)), (faa, .inl (cI, 17, .inl faA)), (mo, .inr (3, [.int 0, .int (nI wn), .int (nI hn), .int fo, .ref mt, .ref mr, .int ma, .ref mx, .int mn, .ref mp, .ref mq, .int (nI ct)])), (mt, .inl (cJ, 18, .inr (.inl gif))), (mr, .inl (cJ, 120, .inr (.inl mrf))), (mx, .inl (cJ, 120, .inr (.inl mxf))), (mp, .inl (cJ, 324, .inr (.inl mpf))), (mq, .inl (cJ, 18, .inr (.inl mqf)))] H := hP
        have hD : va_D A [(ob, .inr (0, [.int (nI wn), .int (nI hn), .int fo, .ref gi, .ref ke, .ref sp, .ref pi, .ref fa])), (gi, .inr (1, [.ref gia, .int 3])), (gia, .inl (cJ, 114, .inr (.inl gif))), (ke, .inr (1, [.ref kea, .int ken])), (kea, .inl (cJ, 114, .inr (.inl kef))), (sp, .inr (1, [.ref spa, .int spn])), (spa, .inl (cJ, 114, .inr (.inl spf))), (pi, .inr (1, [.ref pia, .int (nI pn)])), (pia, .inl (cJ, 114, .inr (.inl pif))), (fa, .inr (2, [.ref fas, .ref fat, .ref faa, .int (nI ct)])), (fas, .inl (cI, 17, .inl faS)), (fat, .inl (cI, 17, .inl faT)), (faa, .inl (cI, 17, .inl faA)), (mo, .inr (3, [.int 0, .int (nI wn), .int (nI hn), .int fo, .ref mt, .ref mr, .int ma, .ref mx, .int mn, .ref mp, .ref mq, .int (nI ct)])), (mt, .inl (cJ, 18, .inr (.inl gif))), (mr, .inl (cJ, 120, .inr (.inl mrf))), (mx, .inl (cJ, 120, .inr (.inl mxf))), (mp, .inl (cJ, 324, .inr (.inl mpf))), (mq, .inl (cJ, 18, .inr (.inl mqf)))] := hD
        refine lv_icmp_eq (tgt := 541) hx hb d_La_law_503 (by decide) (fun c_184 => ?_) (fun c_184 => absurd (by rw [er_174, er_183]) c_184)
        refine lv_iinc (v := (nI (i + 5))) (lv' := [(3, .int (nI (i + 5))), (0, .ref b), (1, .ref ob), (2, .ref mo)]) hx hb d_La_law_541 hl (k := 3) rfl (nI_add i 5) (by decide) rfl (fun ls hl => ?_)
        refine lv_goto (tgt := 38) hx hb d_La_law_544 (by decide) ?_
        exact ih (i + 5) _ _ _ _ _ _ _ _ _ _ _ _ _ _ _ _ _ _ _ _ _ _ _ _ _ _ _ (by omega) (by omega) hfit hG hcl hmo _ _ hP hD hS ls (lv_sub hl [1, 2, 3, 0] rfl)
      · refine lv_tableIn (off := 456) (tgt := 508) hx hb d_La_law_52 (by decide) (by decide) (by decide) (by decide) ?_
        refine lv_aload_n hx hb d_La_law_508 rfl (lv_at hl 1 rfl) ?_
        refine lv_aload_n hx hb d_La_law_509 rfl (lv_at hl 0 rfl) ?_
        refine lv_iload_n hx hb d_La_law_510 rfl (lv_at hl 3 rfl) ?_
        refine lv_iconst (v := 1) hx hb d_La_law_511 (by decide) ?_
        refine lv_iadd hx hb d_La_law_512 ?_
        refine lv_topi (fun y_185 ey_185 => ?_)
        have ey_185 : y_185 = nI (i + 1) := by rw [ey_185]; first | rfl | (simp only [nk_set_0, nk_set_1, nk_set_2, nk_set_3, nk_set_4, nk_set_5, nk_set_6, nk_set_7, nk_set_12, nk_set_13, nk_set_18, pk_mul, nI_add]; done) | (simp only [nk_set_0, nk_set_1, nk_set_2, nk_set_3, nk_set_4, nk_set_5, nk_set_6, nk_set_7, nk_set_12, nk_set_13, nk_set_18, pk_mul, nI_add]; exact congrArg nI (by omega))
        subst ey_185
        refine va_sld hx hb hX hbl hbA hS (vp_in_nI (n := i + 1) (by omega) (by omega)) d_La_law_513 ?_
        refine lv_topi (fun y_186 ey_186 => ?_)
        rw [nI_clamp (by omega)] at ey_186
        subst ey_186
        refine lv_aload_n hx hb d_La_law_514 rfl (lv_at hl 0 rfl) ?_
        refine lv_iload_n hx hb d_La_law_515 rfl (lv_at hl 3 rfl) ?_
        refine lv_iconst (v := 2) hx hb d_La_law_516 (by decide) ?_
        refine lv_iadd hx hb d_La_law_517 ?_
        refine lv_topi (fun y_187 ey_187 => ?_)
        have ey_187 : y_187 = nI (i + 2) := by rw [ey_187]; first | rfl | (simp only [nk_set_0, nk_set_1, nk_set_2, nk_set_3, nk_set_4, nk_set_5, nk_set_6, nk_set_7, nk_set_12, nk_set_13, nk_set_18, pk_mul, nI_add]; done) | (simp only [nk_set_0, nk_set_1, nk_set_2, nk_set_3, nk_set_4, nk_set_5, nk_set_6, nk_set_7, nk_set_12, nk_set_13, nk_set_18, pk_mul, nI_add]; exact congrArg nI (by omega))
        subst ey_187
        refine va_sld hx hb hX hbl hbA hS (vp_in_nI (n := i + 2) (by omega) (by omega)) d_La_law_518 ?_
        refine lv_topi (fun y_188 ey_188 => ?_)
        rw [nI_clamp (by omega)] at ey_188
        subst ey_188
        have hPc := hP.sub (ws' := [(ob, .inr (0, [.int (nI wn), .int (nI hn), .int fo, .ref gi, .ref ke, .ref sp, .ref pi, .ref fa])), (gi, .inr (1, [.ref gia, .int 3])), (gia, .inl (cJ, 114, .inr (.inl gif))), (ke, .inr (1, [.ref kea, .int ken])), (kea, .inl (cJ, 114, .inr (.inl kef))), (sp, .inr (1, [.ref spa, .int spn])), (spa, .inl (cJ, 114, .inr (.inl spf))), (pi, .inr (1, [.ref pia, .int (nI pn)])), (pia, .inl (cJ, 114, .inr (.inl pif))), (fa, .inr (2, [.ref fas, .ref fat, .ref faa, .int (nI ct)])), (fas, .inl (cI, 17, .inl faS)), (fat, .inl (cI, 17, .inl faT)), (faa, .inl (cI, 17, .inl faA))]) [0, 1, 2, 3, 4, 5, 6, 7, 8, 9, 10, 11, 12] rfl
        refine vp_callSi (va_Run.run (va_runV (As := [.int (xs (i + 1)), .int (xs (i + 2))]) (rest := []) ⟨hx, hb, hml, hown, hts⟩ (c_PC_covered l dC dI cJ cI ob (nI wn) (nI hn) fo gi gia 3 gif ke kea ken kef sp spa spn spf pi pia (nI pn) pif fa fas fat faa ct faS faT faA pn S T P (xs (i + 1)) (xs (i + 2)) hcl (by omega)) (cwV 2 hts (gd_V wd_224 wd_225 wd_226 wd_33 wd_227) rfl rfl rfl (by decide +kernel) ⟨Nat.le_of_ble_eq_true rfl, Nat.le_of_ble_eq_true rfl⟩) ⟨fb_ro, va_recv hK hPc (ci := 0) (q0 := 0) rfl rfl, pre_ro hK hN hPc⟩ rfl rfl hl.1 rfl (lv_room (Nat.le_of_ble_eq_true rfl)) d_La_law_519 ⟨Nat.le_of_ble_eq_true rfl, Nat.le_of_ble_eq_true rfl⟩)) (fun r_189 er_189 => ?_)
        have er_189 : r_189 = qa_covered (nI wn) (nI hn) ct S T P (xs (i + 1)) (xs (i + 2)) := er_189
        refine lv_aload_n hx hb d_La_law_522 rfl (lv_at hl 2 rfl) ?_
        refine lv_aload_n hx hb d_La_law_523 rfl (lv_at hl 0 rfl) ?_
        refine lv_iload_n hx hb d_La_law_524 rfl (lv_at hl 3 rfl) ?_
        refine lv_iconst (v := 1) hx hb d_La_law_525 (by decide) ?_
        refine lv_iadd hx hb d_La_law_526 ?_
        refine lv_topi (fun y_190 ey_190 => ?_)
        have ey_190 : y_190 = nI (i + 1) := by rw [ey_190]; first | rfl | (simp only [nk_set_0, nk_set_1, nk_set_2, nk_set_3, nk_set_4, nk_set_5, nk_set_6, nk_set_7, nk_set_12, nk_set_13, nk_set_18, pk_mul, nI_add]; done) | (simp only [nk_set_0, nk_set_1, nk_set_2, nk_set_3, nk_set_4, nk_set_5, nk_set_6, nk_set_7, nk_set_12, nk_set_13, nk_set_18, pk_mul, nI_add]; exact congrArg nI (by omega))
        subst ey_190
        refine va_sld hx hb hX hbl hbA hS (vp_in_nI (n := i + 1) (by omega) (by omega)) d_La_law_527 ?_
        refine lv_topi (fun y_191 ey_191 => ?_)
        rw [nI_clamp (by omega)] at ey_191
        subst ey_191
        refine lv_aload_n hx hb d_La_law_528 rfl (lv_at hl 0 rfl) ?_
        refine lv_iload_n hx hb d_La_law_529 rfl (lv_at hl 3 rfl) ?_
        refine lv_iconst (v := 2) hx hb d_La_law_530 (by decide) ?_
        refine lv_iadd hx hb d_La_law_531 ?_
        refine lv_topi (fun y_192 ey_192 => ?_)
        have ey_192 : y_192 = nI (i + 2) := by rw [ey_192]; first | rfl | (simp only [nk_set_0, nk_set_1, nk_set_2, nk_set_3, nk_set_4, nk_set_5, nk_set_6, nk_set_7, nk_set_12, nk_set_13, nk_set_18, pk_mul, nI_add]; done) | (simp only [nk_set_0, nk_set_1, nk_set_2, nk_set_3, nk_set_4, nk_set_5, nk_set_6, nk_set_7, nk_set_12, nk_set_13, nk_set_18, pk_mul, nI_add]; exact congrArg nI (by omega))
        subst ey_192
        refine va_sld hx hb hX hbl hbA hS (vp_in_nI (n := i + 2) (by omega) (by omega)) d_La_law_532 ?_
        refine lv_topi (fun y_193 ey_193 => ?_)
        rw [nI_clamp (by omega)] at ey_193
        subst ey_193
        have hPc := hP.sub (ws' := [(mo, .inr (3, [.int 0, .int (nI wn), .int (nI hn), .int fo, .ref mt, .ref mr, .int ma, .ref mx, .int mn, .ref mp, .ref mq, .int (nI ct)])), (mt, .inl (cJ, 18, .inr (.inl gif))), (mr, .inl (cJ, 120, .inr (.inl mrf))), (mx, .inl (cJ, 120, .inr (.inl mxf))), (mp, .inl (cJ, 324, .inr (.inl mpf))), (mq, .inl (cJ, 18, .inr (.inl mqf)))]) [13, 14, 15, 16, 17, 18] rfl
        have hDc := hD.sub (ws' := [(mo, .inr (3, [.int 0, .int (nI wn), .int (nI hn), .int fo, .ref mt, .ref mr, .int ma, .ref mx, .int mn, .ref mp, .ref mq, .int (nI ct)])), (mt, .inl (cJ, 18, .inr (.inl gif))), (mr, .inl (cJ, 120, .inr (.inl mrf))), (mx, .inl (cJ, 120, .inr (.inl mxf))), (mp, .inl (cJ, 324, .inr (.inl mpf))), (mq, .inl (cJ, 18, .inr (.inl mqf)))]) [13, 14, 15, 16, 17, 18] (by decide) rfl
        have hFc := va_free (wc := [(mo, .inr (3, [.int 0, .int (nI wn), .int (nI hn), .int fo, .ref mt, .ref mr, .int ma, .ref mx, .int mn, .ref mp, .ref mq, .int (nI ct)])), (mt, .inl (cJ, 18, .inr (.inl gif))), (mr, .inl (cJ, 120, .inr (.inl mrf))), (mx, .inl (cJ, 120, .inr (.inl mxf))), (mp, .inl (cJ, 324, .inr (.inl mpf))), (mq, .inl (cJ, 18, .inr (.inl mqf)))]) hD hS hA [13, 14, 15, 16, 17, 18] rfl
        refine va_calli (va_runV (As := [.int (xs (i + 1)), .int (xs (i + 2))]) (rest := [.int r_189]) ⟨hx, hb, hml, hown, hts⟩ (c_Mo_covered l dC dI cJ cI H.size mo (nI wn) (nI hn) fo mt mr ma mx mn mp mq ct gif mrf mxf mpf mqf pn S T P (xs (i + 1)) (xs (i + 2)) hmo (by omega) hwh) (cwV 2 hts (gd_V wd_349 wd_350 wd_351 wd_37 wd_352) rfl rfl rfl (by decide +kernel) ⟨Nat.le_of_ble_eq_true rfl, Nat.le_of_ble_eq_true rfl⟩) ⟨fb_rw, va_recv hK hPc (ci := 3) (q0 := 0) rfl rfl, pre_rw hK hN hPc hDc⟩ rfl rfl hl.1 rfl (lv_room (Nat.le_of_ble_eq_true rfl)) d_La_law_533 ⟨Nat.le_of_ble_eq_true rfl, Nat.le_of_ble_eq_true rfl⟩) hS (fun q _ h => hFc q h) hFc (fun r_194 u t H locs ht hvm hw hB hz1 hk1 hS => ?_)
        obtain ⟨hP1, hD1⟩ := hB
        rw [ht] at hP1
        obtain ⟨hP, hD⟩ := va_join (wr := [(ob, .inr (0, [.int (nI wn), .int (nI hn), .int fo, .ref gi, .ref ke, .ref sp, .ref pi, .ref fa])), (gi, .inr (1, [.ref gia, .int 3])), (gia, .inl (cJ, 114, .inr (.inl gif))), (ke, .inr (1, [.ref kea, .int ken])), (kea, .inl (cJ, 114, .inr (.inl kef))), (sp, .inr (1, [.ref spa, .int spn])), (spa, .inl (cJ, 114, .inr (.inl spf))), (pi, .inr (1, [.ref pia, .int (nI pn)])), (pia, .inl (cJ, 114, .inr (.inl pif))), (fa, .inr (2, [.ref fas, .ref fat, .ref faa, .int (nI ct)])), (fas, .inl (cI, 17, .inl faS)), (fat, .inl (cI, 17, .inl faT)), (faa, .inl (cI, 17, .inl faA))]) (w1 := [(mo, .inr (3, [.int 0, .int (nI wn), .int (nI hn), .int fo, .ref mt, .ref mr, .int ma, .ref mx, .int mn, .ref mp, .ref mq, .int (nI ct)])), (mt, .inl (cJ, 18, .inr (.inl gif))), (mr, .inl (cJ, 120, .inr (.inl mrf))), (mx, .inl (cJ, 120, .inr (.inl mxf))), (mp, .inl (cJ, 324, .inr (.inl mpf))), (mq, .inl (cJ, 18, .inr (.inl mqf)))]) hP hD [13, 14, 15, 16, 17, 18] [0, 1, 2, 3, 4, 5, 6, 7, 8, 9, 10, 11, 12] rfl rfl (by decide) (by decide) hk1 hFc hP1 hD1
        have er_194 := hw
        have er_194 : r_194 = qa_covered (nI wn) (nI hn) ct S T P (xs (i + 1)) (xs (i + 2)) := er_194
        have hP : va_P (dC, dI) cls4 [(ob, .inr (0, [.int (nI wn), .int (nI hn), .int fo, .ref gi, .ref ke, .ref sp, .ref pi, .ref fa])), (gi, .inr (1, [.ref gia, .int 3])), (gia, .inl (cJ, 114, .inr (.inl gif))), (ke, .inr (1, [.ref kea, .int ken])), (kea, .inl (cJ, 114, .inr (.inl kef))), (sp, .inr (1, [.ref spa, .int spn])), (spa, .inl (cJ, 114, .inr (.inl spf))), (pi, .inr (1, [.ref pia, .int (nI pn)])), (pia, .inl (cJ, 114, .inr (.inl pif))), (fa, .inr (2, [.ref fas, .ref fat, .ref faa, .int (nI ct)])), (fas, .inl (cI, 17, .inl faS)), (fat, .inl (cI, 17, .inl faT)), (faa, .inl (cI, 17, .inl faA)), (mo, .inr (3, [.int 0, .int (nI wn), .int (nI hn), .int fo, .ref mt, .ref mr, .int ma, .ref mx, .int mn, .ref mp, .ref mq, .int (nI ct)])), (mt, .inl (cJ, 18, .inr (.inl gif))), (mr, .inl (cJ, 120, .inr (.inl mrf))), (mx, .inl (cJ, 120, .inr (.inl mxf))), (mp, .inl (cJ, 324, .inr (.inl mpf))), (mq, .inl (cJ, 18, .inr (.inl mqf)))] H := hP
        have hD : va_D A [(ob, .inr (0, [.int (nI wn), .int (nI hn), .int fo, .ref gi, .ref ke, .ref sp, .ref pi, .ref fa])), (gi, .inr (1, [.ref gia, .int 3])), (gia, .inl (cJ, 114, .inr (.inl gif))), (ke, .inr (1, [.ref kea, .int ken])), (kea, .inl (cJ, 114, .inr (.inl kef))), (sp, .inr (1, [.ref spa, .int spn])), (spa, .inl (cJ, 114, .inr (.inl spf))), (pi, .inr (1, [.ref pia, .int (nI pn)])), (pia, .inl (cJ, 114, .inr (.inl pif))), (fa, .inr (2, [.ref fas, .ref fat, .ref faa, .int (nI ct)])), (fas, .inl (cI, 17, .inl faS)), (fat, .inl (cI, 17, .inl faT)), (faa, .inl (cI, 17, .inl faA)), (mo, .inr (3, [.int 0, .int (nI wn), .int (nI hn), .int fo, .ref mt, .ref mr, .int ma, .ref mx, .int mn, .ref mp, .ref mq, .int (nI ct)])), (mt, .inl (cJ, 18, .inr (.inl gif))), (mr, .inl (cJ, 120, .inr (.inl mrf))), (mx, .inl (cJ, 120, .inr (.inl mxf))), (mp, .inl (cJ, 324, .inr (.inl mpf))), (mq, .inl (cJ, 18, .inr (.inl mqf)))] := hD
        refine lv_icmp_eq (tgt := 541) hx hb d_La_law_536 (by decide) (fun c_195 => ?_) (fun c_195 => absurd (by rw [er_189, er_194]) c_195)
        refine lv_iinc (v := (nI (i + 5))) (lv' := [(3, .int (nI (i + 5))), (0, .ref b), (1, .ref ob), (2, .ref mo)]) hx hb d_La_law_541 hl (k := 3) rfl (nI_add i 5) (by decide) rfl (fun ls hl => ?_)
        refine lv_goto (tgt := 38) hx hb d_La_law_544 (by decide) ?_
        exact ih (i + 5) _ _ _ _ _ _ _ _ _ _ _ _ _ _ _ _ _ _ _ _ _ _ _ _ _ _ _ (by omega) (by omega) hfit hG hcl hmo _ _ hP hD hS ls (lv_sub hl [1, 2, 3, 0] rfl)
      · refine lv_tableOut (tgt := 541) hx hb d_La_law_52 (Or.inr (by rw [nI_toInt (by omega)]; omega)) (by decide) ?_
        refine lv_iinc (v := (nI (i + 5))) (lv' := [(3, .int (nI (i + 5))), (0, .ref b), (1, .ref ob), (2, .ref mo)]) hx hb d_La_law_541 hl (k := 3) rfl (nI_add i 5) (by decide) rfl (fun ls hl => ?_)
        refine lv_goto (tgt := 38) hx hb d_La_law_544 (by decide) ?_
        exact ih (i + 5) _ _ _ _ _ _ _ _ _ _ _ _ _ _ _ _ _ _ _ _ _ _ _ _ _ _ _ (by omega) (by omega) hfit hG hcl hmo _ _ hP hD hS ls (lv_sub hl [1, 2, 3, 0] rfl)
