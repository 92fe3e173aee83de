/-! The reference's cut, against the pure rings. -/
theorem mc_side {wi hi fo : Int32} {f : Nat → Int64} {sd c : Nat} (hs : sd < 5) : f_Mo_number2 wi hi fo f (nI sd) c = pu_side fo wi hi sd f c := by
  unfold f_Mo_number2
  match sd, hs with
  | 0, _ => rfl
  | 1, _ => rfl
  | 2, _ => rfl
  | 3, _ => rfl
  | 4, _ => rfl
theorem six_eq {f : Nat → Int64} {m i0 i1 i2 i3 i4 i5 : Nat} {a0 a1 a2 a3 a4 a5 : Int64} (v : Nat → Int64) (h0 : i0 = 6 * m + 0) (h1 : i1 = 6 * m + 1) (h2 : i2 = 6 * m + 2) (h3 : i3 = 6 * m + 3) (h4 : i4 = 6 * m + 4) (h5 : i5 = 6 * m + 5) (e0 : a0 = v 0) (e1 : a1 = v 1) (e2 : a2 = v 2) (e3 : a3 = v 3) (e4 : a4 = v 4) (e5 : a5 = v 5) :
    vp_updL (vp_updL (vp_updL (vp_updL (vp_updL (vp_updL f i0 a0) i1 a1) i2 a2) i3 a3) i4 a4) i5 a5 = pu_put f m v := by
  rw [← ri_six_eq, h0, h1, h2, h3, h4, h5, e0, e1, e2, e3, e4, e5]
  rfl
theorem mc_nx {n k : Nat} (hk : k < n) : pu_nx n k = (k + 1) % n := by
  unfold pu_nx
  split
  · rw [Nat.mod_eq_of_lt (by omega)]
  · rw [show k + 1 = n by omega, Nat.mod_self]
theorem mc_le {fo wi hi : Int32} {sd n k : Nat} {R N0 : Nat → Int64} (hk : k ≤ n) (hn : n ≤ 13) : (pu_cs fo wi hi sd n R N0 k).1 ≤ 19 := by
  have h1 := pu_cs_mono (fo := fo) (w := wi) (h := hi) (sd := sd) (n := n) (R := R) (N0 := N0) hk
  have h2 := pu_cs_most (fo := fo) (w := wi) (h := hi) (sd := sd) (n := n) (R := R) (N0 := N0)
  omega
theorem mc_nz {a b : Int64} (h : 0 < (a - b).toInt) : ¬ a - b = 0 := by
  intro q
  rw [q, Int64.toInt_zero] at h
  omega
theorem mc_pnz {z : Int64} (h : 0 < z.toInt) : ¬ z = 0 := by
  intro q
  rw [q, Int64.toInt_zero] at h
  omega
def mc_cp (f g : Nat → Int64) (k : Nat) : Nat → Int64 := fun j => if j < k then f j else g j
theorem mc_cp_s (f g : Nat → Int64) (k : Nat) : vp_updL (mc_cp f g k) k (f k) = mc_cp f g (k + 1) := by
  funext j
  unfold vp_updL mc_cp
  by_cases h : j = k
  · rw [if_pos h, if_pos (by omega), h]
  · rw [if_neg h]
    by_cases h2 : j < k
    · rw [if_pos h2, if_pos (by omega)]
    · rw [if_neg h2, if_neg (by omega)]
theorem mc_cp_0 (f g : Nat → Int64) : mc_cp f g 0 = g := by
  funext j
  unfold mc_cp
  rw [if_neg (Nat.not_lt_zero j)]
theorem mc_start {fo wi hi : Int32} {G g : Nat → Int64} : ∀ j, j < 6 * 3 → mc_cp G g 18 j = (pu_ring fo wi hi G 0).2 j := by
  intro j hj
  show _ = G j
  unfold mc_cp
  rw [if_pos (by omega)]
theorem mc_zero {fo w h : Int32} {G : Nat → Int64} {s : Nat} (h0 : (pu_ring fo w h G s).1 = 0) : ∀ d, (pu_ring fo w h G (s + d)).1 = 0 := by
  intro d
  induction d with
  | zero => exact h0
  | succ d ih =>
    show (pu_cs fo w h (s + d) (pu_ring fo w h G (s + d)).1 (pu_ring fo w h G (s + d)).2 (fun _ => 0) (pu_ring fo w h G (s + d)).1).1 = 0
    rw [ih]
    rfl
theorem mc_fin {fo w h : Int32} {G f : Nat → Int64} {s n : Nat} (hs : s ≤ 5) (hn : n = (pu_ring fo w h G s).1) (ha : ∀ j, j < 6 * n → f j = (pu_ring fo w h G s).2 j) (hx : s = 5 ∨ n = 0) : n = (pu_ring fo w h G 5).1 ∧ ∀ j, j < 6 * n → f j = (pu_ring fo w h G 5).2 j := by
  rcases hx with e | e
  · subst e; exact ⟨hn, ha⟩
  · have q := mc_zero (fo := fo) (w := w) (h := h) (G := G) (s := s) (by omega) (5 - s)
    rw [show s + (5 - s) = 5 by omega] at q
    exact ⟨by omega, fun j hj => absurd hj (by omega)⟩
theorem mc_k0 {n : Nat} (hn : n < 2 ^ 31) (h : nI n ≤ 0) : n = 0 := by
  rw [nk_set_0, nI_leI hn (by decide)] at h
  omega
/-- rows of the pieces: row 3 * i + c -/
theorem mc_row {F v : Nat → Int64} {i c k m : Nat} (hc : c < 3) (hk : k < 6) (h : 3 * i + c ≠ m) : pu_put F m v (18 * i + 6 * c + k) = F (18 * i + 6 * c + k) := by
  unfold pu_put
  rw [if_neg (by omega)]
theorem mc_row1 {F v : Nat → Int64} {i c k : Nat} (hc : c < 3) (hk : k < 6) : pu_put F (3 * i + c) v (18 * i + 6 * c + k) = v k := by
  unfold pu_put
  rw [if_pos (by omega), show (18 * i + 6 * c + k) % 6 = k by omega]
theorem mc_area {F P : Nat → Int64} {i a b : Nat} (h0 : ∀ k, k < 6 → F (18 * i + 6 * 0 + k) = P (6 * 0 + k)) (h1 : ∀ k, k < 6 → F (18 * i + 6 * 1 + k) = P (6 * a + k)) (h2 : ∀ k, k < 6 → F (18 * i + 6 * 2 + k) = P (6 * b + k)) : f_Mo_areaOf F i = pu_ar P a b := by
  have e0 : F (18 * i) = P 0 := h0 0 (by decide)
  have e1 : F (18 * i + 1) = P 1 := h0 1 (by decide)
  have e6 : F (18 * i + 6) = P (6 * a) := h1 0 (by decide)
  have e7 : F (18 * i + 7) = P (6 * a + 1) := h1 1 (by decide)
  have e12 : F (18 * i + 12) = P (6 * b) := h2 0 (by decide)
  have e13 : F (18 * i + 13) = P (6 * b + 1) := h2 1 (by decide)
  unfold f_Mo_areaOf pu_ar
  rw [e0, e1, e6, e7, e12, e13]
/-- the pieces' invariant: the first ct of them stand -/
def mc_inv (pf qf : Nat → Int64) (bo : Bool) (P : Nat → Int64) (j : Nat) : Prop := (∀ i c k, i < (pu_pcs bo P j).1 → c < 3 → k < 6 → pf (18 * i + 6 * c + k) = P (6 * qy_cor (pu_pcs bo P j).2.1 (pu_pcs bo P j).2.2 i c + k)) ∧ ∀ i, i < (pu_pcs bo P j).1 → qf i = pu_ar P ((pu_pcs bo P j).2.1 i) ((pu_pcs bo P j).2.2 i)
theorem mc_cor {S T : Nat → Nat} {n a b i c : Nat} (h : i ≠ n) : qy_cor (va_up S n a) (va_up T n b) i c = qy_cor S T i c := by
  unfold qy_cor
  rw [pu_up_n h, pu_up_n h]
/-- three rows of the piece number n are laid anew -/
def mc_three (F : Nat → Int64) (n : Nat) (v0 v1 v2 : Nat → Int64) : Nat → Int64 := pu_put (pu_put (pu_put F (3 * n + 0) v0) (3 * n + 1) v1) (3 * n + 2) v2
theorem mc_three_old {F v0 v1 v2 : Nat → Int64} {n i c k : Nat} (hc : c < 3) (hk : k < 6) (h : i ≠ n) : mc_three F n v0 v1 v2 (18 * i + 6 * c + k) = F (18 * i + 6 * c + k) := by
  unfold mc_three
  rw [mc_row hc hk (by omega), mc_row hc hk (by omega), mc_row hc hk (by omega)]
theorem mc_three_new {F v0 v1 v2 : Nat → Int64} {n : Nat} : (∀ k, k < 6 → mc_three F n v0 v1 v2 (18 * n + 6 * 0 + k) = v0 k) ∧ (∀ k, k < 6 → mc_three F n v0 v1 v2 (18 * n + 6 * 1 + k) = v1 k) ∧ (∀ k, k < 6 → mc_three F n v0 v1 v2 (18 * n + 6 * 2 + k) = v2 k) := by
  refine ⟨fun k hk => ?_, fun k hk => ?_, fun k hk => ?_⟩
  · unfold mc_three
    rw [mc_row (by decide) hk (by omega), mc_row (by decide) hk (by omega)]
    exact mc_row1 (c := 0) (by decide) hk
  · unfold mc_three
    rw [mc_row (by decide) hk (by omega)]
    exact mc_row1 (c := 1) (by decide) hk
  · unfold mc_three
    exact mc_row1 (c := 2) (by decide) hk
/-- laid twice, the second and third corner the other way -/
theorem mc_twice {F v0 v1 v2 w1 w2 : Nat → Int64} {n : Nat} : pu_put (pu_put (mc_three F n v0 v1 v2) (3 * n + 1) w1) (3 * n + 2) w2 = mc_three F n v0 w1 w2 := by
  funext j
  unfold mc_three pu_put
  by_cases h2 : j / 6 = 3 * n + 2
  · simp only [if_pos h2]
  · by_cases h1 : j / 6 = 3 * n + 1
    · simp only [if_neg h2, if_pos h1]
    · simp only [if_neg h2, if_neg h1]
theorem mc_keep {pf qf : Nat → Int64} {bo : Bool} {P : Nat → Int64} {j n : Nat} {v0 v1 v2 : Nat → Int64} {x : Int64} (h : mc_inv pf qf bo P j) (hn : n = (pu_pcs bo P j).1) (e : pu_pcs bo P (j + 1) = pu_pcs bo P j) : mc_inv (mc_three pf n v0 v1 v2) (vp_updL qf n x) bo P (j + 1) := by
  unfold mc_inv
  rw [e]
  refine ⟨fun i c k hi hc hk => ?_, fun i hi => ?_⟩
  · rw [mc_three_old hc hk (by omega)]; exact h.1 i c k hi hc hk
  · rw [pk_uLn (by omega)]; exact h.2 i hi
theorem mc_add {pf qf : Nat → Int64} {bo : Bool} {P : Nat → Int64} {j n a b : Nat} {v0 v1 v2 : Nat → Int64} {x : Int64} (h : mc_inv pf qf bo P j) (hn : n = (pu_pcs bo P j).1) (e : pu_pcs bo P (j + 1) = ((pu_pcs bo P j).1 + 1, va_up (pu_pcs bo P j).2.1 (pu_pcs bo P j).1 a, va_up (pu_pcs bo P j).2.2 (pu_pcs bo P j).1 b))
    (h0 : ∀ k, k < 6 → v0 k = P (6 * 0 + k)) (h1 : ∀ k, k < 6 → v1 k = P (6 * a + k)) (h2 : ∀ k, k < 6 → v2 k = P (6 * b + k)) (hx : x = pu_ar P a b) : mc_inv (mc_three pf n v0 v1 v2) (vp_updL qf n x) bo P (j + 1) := by
  unfold mc_inv
  rw [e]
  dsimp only
  obtain ⟨n0, n1, n2⟩ := mc_three_new (F := pf) (n := n) (v0 := v0) (v1 := v1) (v2 := v2)
  refine ⟨fun i c k hi hc hk => ?_, fun i hi => ?_⟩
  · rcases Nat.lt_or_ge i (pu_pcs bo P j).1 with g | g
    · rw [mc_three_old hc hk (by omega), mc_cor (by omega)]; exact h.1 i c k g hc hk
    · have ei : i = n := by omega
      subst ei
      unfold qy_cor
      rw [← hn, pu_up_s, pu_up_s]
      match c, hc with
      | 0, _ => rw [n0 k hk]; exact h0 k hk
      | 1, _ => rw [n1 k hk]; exact h1 k hk
      | 2, _ => rw [n2 k hk]; exact h2 k hk
  · rcases Nat.lt_or_ge i (pu_pcs bo P j).1 with g | g
    · rw [pk_uLn (by omega), pu_up_n (by omega), pu_up_n (by omega)]; exact h.2 i g
    · have ei : i = n := by omega
      subst ei
      rw [pk_uLs, ← hn, pu_up_s, pu_up_s]; exact hx
theorem mc_le2 {bo : Bool} {P : Nat → Int64} : ∀ j, (pu_pcs bo P j).1 ≤ j := by
  intro j
  induction j with
  | zero => exact Nat.le_refl 0
  | succ j ih =>
    by_cases h : 0 < pu_ar P (j + 1) (j + 2)
    · rw [pu_pcs_p h]; dsimp only; omega
    · by_cases h2 : pu_ar P (j + 1) (j + 2) < 0 ∧ bo = true
      · rw [pu_pcs_n h h2.1 h2.2]; dsimp only; omega
      · rw [pu_pcs_z h h2]; omega
theorem mc_lay {fo wi hi : Int32} {G f : Nat → Int64} {n co : Nat} (hn : n = (pu_ring fo wi hi G 5).1) (ha : ∀ j, j < 6 * n → f j = (pu_ring fo wi hi G 5).2 j) (hc : co < n) : ∀ k, k < 6 → (fun k => pu_lay fo wi hi f co k) k = pu_cutP fo wi hi G (6 * co + k) := by
  intro k hk
  show pu_lay fo wi hi f co k = pu_pic fo wi hi (pu_ring fo wi hi G 5).2 (6 * co + k)
  rw [← pu_pic_at co hk]
  exact pu_pic_congr ha (by omega)
theorem mc_ar3 {fo wi hi : Int32} {G f pf : Nat → Int64} {n i a b : Nat} (hn : n = (pu_ring fo wi hi G 5).1) (ha : ∀ j, j < 6 * n → f j = (pu_ring fo wi hi G 5).2 j) (h0 : 0 < n) (h1 : a < n) (h2 : b < n) : f_Mo_areaOf (mc_three pf i (fun q9 => pu_lay fo wi hi f 0 q9) (fun q9 => pu_lay fo wi hi f a q9) (fun q9 => pu_lay fo wi hi f b q9)) i = pu_ar (pu_cutP fo wi hi G) a b := by
  obtain ⟨n0, n1, n2⟩ := mc_three_new (F := pf) (n := i) (v0 := fun q9 => pu_lay fo wi hi f 0 q9) (v1 := fun q9 => pu_lay fo wi hi f a q9) (v2 := fun q9 => pu_lay fo wi hi f b q9)
  exact mc_area (fun k hk => (n0 k hk).trans (mc_lay hn ha h0 k hk)) (fun k hk => (n1 k hk).trans (mc_lay hn ha h1 k hk)) (fun k hk => (n2 k hk).trans (mc_lay hn ha h2 k hk))
theorem mc_inv0 {pf qf : Nat → Int64} {bo : Bool} {P : Nat → Int64} : mc_inv pf qf bo P 0 := ⟨fun i c k hi => absurd hi (Nat.not_lt_zero i), fun i hi => absurd hi (Nat.not_lt_zero i)⟩
theorem mc_neg {fo wi hi : Int32} (hf : pu_fit fo wi hi) {G : Nat → Int64} (hG : pu_given G) {a b : Nat} (h0 : 0 < (pu_ring fo wi hi G 5).1) (h1 : a < (pu_ring fo wi hi G 5).1) (h2 : b < (pu_ring fo wi hi G 5).1) (h : pu_ar (pu_cutP fo wi hi G) a b < 0) : ¬ pu_ar (pu_cutP fo wi hi G) b a ≤ 0 := by
  have ok : ∀ c, c < (pu_ring fo wi hi G 5).1 → pu_pok (pu_cutP fo wi hi G) c := fun c hc => pu_pic_ok hf (pu_ring_inv hf hG 5 c hc)
  have hb := (pu_ar_toInt (ok 0 h0) (ok a h1) (ok b h2)).2
  unfold pu_in at hb
  rw [Int64.lt_iff_toInt_lt, Int64.toInt_zero] at h
  rw [Int64.le_iff_toInt_le, Int64.toInt_zero, pu_ar_swap, Jvm.Kit.i64_neg (by omega)]
  omega
