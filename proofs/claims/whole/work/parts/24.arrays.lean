/-! The arrays that cut fills, as they are, and what of them is the value's. -/
def pu_pics (fo w h : Int32) (R N0 : Nat → Int64) : Nat → (Nat → Int64)
  | 0 => N0
  | c + 1 => pu_put (pu_pics fo w h R N0 c) c (fun k => pu_lay fo w h R c k)
theorem pu_pics_at {fo w h : Int32} {R N0 : Nat → Int64} : ∀ n j, j < 6 * n → pu_pics fo w h R N0 n j = pu_pic fo w h R j := by
  intro n
  induction n with
  | zero => intro j hj; exact absurd hj (Nat.not_lt_zero j)
  | succ n ih =>
    intro j hj
    show pu_put _ n _ j = _
    unfold pu_put
    by_cases q : j / 6 = n
    · rw [if_pos q]; unfold pu_pic; rw [q]
    · rw [if_neg q]; exact ih j (by omega)
theorem pu_pic_congr {fo w h : Int32} {R R2 : Nat → Int64} {n j : Nat} (hR : ∀ j, j < 6 * n → R j = R2 j) (hj : j < 6 * n) : pu_pic fo w h R j = pu_pic fo w h R2 j := by
  unfold pu_pic
  have hc : j / 6 < n := by omega
  have hk : j % 6 < 6 := Nat.mod_lt _ (by decide)
  generalize j / 6 = c at hc ⊢
  generalize j % 6 = k at hk ⊢
  unfold pu_lay
  match k, hk with
  | 0, _ => show pu_div (16 * fo.toInt64 * R (6 * c)) (R (6 * c + 2)) + 8 * w.toInt64 = pu_div (16 * fo.toInt64 * R2 (6 * c)) (R2 (6 * c + 2)) + 8 * w.toInt64; rw [hR (6 * c) (by omega), hR (6 * c + 2) (by omega)]
  | 1, _ => show pu_div (16 * fo.toInt64 * R (6 * c + 1)) (R (6 * c + 2)) + 8 * h.toInt64 = pu_div (16 * fo.toInt64 * R2 (6 * c + 1)) (R2 (6 * c + 2)) + 8 * h.toInt64; rw [hR (6 * c + 1) (by omega), hR (6 * c + 2) (by omega)]
  | 2, _ => show pu_div 4294967296 (R (6 * c + 2)) = pu_div 4294967296 (R2 (6 * c + 2)); rw [hR (6 * c + 2) (by omega)]
  | 3, _ => exact hR (6 * c + 3) (by omega)
  | 4, _ => exact hR (6 * c + 4) (by omega)
  | 5, _ => exact hR (6 * c + 5) (by omega)
theorem pu_lay_put {N v v2 : Nat → Int64} {m : Nat} {a b c : Int64} (h0 : a = v2 0) (h1 : b = v2 1) (h2 : c = v2 2) (h3 : v 3 = v2 3) (h4 : v 4 = v2 4) (h5 : v 5 = v2 5) : vp_updL (vp_updL (vp_updL (pu_put N m v) (6 * m + 0) a) (6 * m + 1) b) (6 * m + 2) c = pu_put N m v2 := by
  funext j
  unfold vp_updL pu_put
  by_cases h : j / 6 = m
  · have hj : j = 6 * m + j % 6 := by omega
    have hl : j % 6 < 6 := Nat.mod_lt _ (by decide)
    rw [if_pos h, if_pos h]
    generalize j % 6 = k at hj hl ⊢
    subst hj
    match k, hl with
    | 0, _ => rw [if_neg (by omega), if_neg (by omega), if_pos rfl, h0]
    | 1, _ => rw [if_neg (by omega), if_pos rfl, h1]
    | 2, _ => rw [if_pos rfl, h2]
    | 3, _ => rw [if_neg (by omega), if_neg (by omega), if_neg (by omega), h3]
    | 4, _ => rw [if_neg (by omega), if_neg (by omega), if_neg (by omega), h4]
    | 5, _ => rw [if_neg (by omega), if_neg (by omega), if_neg (by omega), h5]
  · rw [if_neg h, if_neg h, if_neg (by omega), if_neg (by omega), if_neg (by omega)]
theorem pu_ar_congr {P P2 : Nat → Int64} {n a b : Nat} (hP : ∀ j, j < 6 * n → P j = P2 j) (ha : a < n) (hb : b < n) : pu_ar P a b = pu_ar P2 a b := by
  unfold pu_ar
  rw [hP (6 * a) (by omega), hP (6 * a + 1) (by omega), hP (6 * b) (by omega), hP (6 * b + 1) (by omega), hP 0 (by omega), hP 1 (by omega)]
/-- the class's fan after the corners 0, k, k + 1 for k = 1 .. j -/
def pu_fan (bo : Int32) (P : Nat → Int64) (S0 T0 A0 : Nat → Int32) : Nat → Nat × (Nat → Int32) × (Nat → Int32) × (Nat → Int32)
  | 0 => (0, S0, T0, A0)
  | j + 1 =>
    if 0 < pu_ar P (j + 1) (j + 2) then ((pu_fan bo P S0 T0 A0 j).1 + 1, upd (pu_fan bo P S0 T0 A0 j).2.1 (pu_fan bo P S0 T0 A0 j).1 (nI (j + 1)), upd (pu_fan bo P S0 T0 A0 j).2.2.1 (pu_fan bo P S0 T0 A0 j).1 (nI (j + 2)), upd (pu_fan bo P S0 T0 A0 j).2.2.2 (pu_fan bo P S0 T0 A0 j).1 (pu_ar P (j + 1) (j + 2)).toInt32)
    else if pu_ar P (j + 1) (j + 2) < 0 ∧ ¬ bo = 0 then ((pu_fan bo P S0 T0 A0 j).1 + 1, upd (pu_fan bo P S0 T0 A0 j).2.1 (pu_fan bo P S0 T0 A0 j).1 (nI (j + 2)), upd (pu_fan bo P S0 T0 A0 j).2.2.1 (pu_fan bo P S0 T0 A0 j).1 (nI (j + 1)), upd (pu_fan bo P S0 T0 A0 j).2.2.2 (pu_fan bo P S0 T0 A0 j).1 (-pu_ar P (j + 1) (j + 2)).toInt32)
    else pu_fan bo P S0 T0 A0 j
section FAN
variable {bo : Int32} {P : Nat → Int64} {S0 T0 A0 : Nat → Int32} {j : Nat}
theorem pu_fan_p (h : 0 < pu_ar P (j + 1) (j + 2)) : pu_fan bo P S0 T0 A0 (j + 1) = ((pu_fan bo P S0 T0 A0 j).1 + 1, upd (pu_fan bo P S0 T0 A0 j).2.1 (pu_fan bo P S0 T0 A0 j).1 (nI (j + 1)), upd (pu_fan bo P S0 T0 A0 j).2.2.1 (pu_fan bo P S0 T0 A0 j).1 (nI (j + 2)), upd (pu_fan bo P S0 T0 A0 j).2.2.2 (pu_fan bo P S0 T0 A0 j).1 (pu_ar P (j + 1) (j + 2)).toInt32) := by
  rw [pu_fan, if_pos h]
theorem pu_fan_n (h : ¬ 0 < pu_ar P (j + 1) (j + 2)) (h2 : pu_ar P (j + 1) (j + 2) < 0) (hb : ¬ bo = 0) : pu_fan bo P S0 T0 A0 (j + 1) = ((pu_fan bo P S0 T0 A0 j).1 + 1, upd (pu_fan bo P S0 T0 A0 j).2.1 (pu_fan bo P S0 T0 A0 j).1 (nI (j + 2)), upd (pu_fan bo P S0 T0 A0 j).2.2.1 (pu_fan bo P S0 T0 A0 j).1 (nI (j + 1)), upd (pu_fan bo P S0 T0 A0 j).2.2.2 (pu_fan bo P S0 T0 A0 j).1 (-pu_ar P (j + 1) (j + 2)).toInt32) := by
  rw [pu_fan, if_neg h, if_pos ⟨h2, hb⟩]
theorem pu_fan_z (h : ¬ 0 < pu_ar P (j + 1) (j + 2)) (h2 : ¬ (pu_ar P (j + 1) (j + 2) < 0 ∧ ¬ bo = 0)) : pu_fan bo P S0 T0 A0 (j + 1) = pu_fan bo P S0 T0 A0 j := by
  rw [pu_fan, if_neg h, if_neg h2]
theorem pu_fan_le : ∀ j, (pu_fan bo P S0 T0 A0 j).1 ≤ j := by
  intro j
  induction j with
  | zero => exact Nat.le_refl 0
  | succ j ih =>
    by_cases h : 0 < pu_ar P (j + 1) (j + 2)
    · rw [pu_fan_p h]; dsimp only; omega
    · by_cases h2 : pu_ar P (j + 1) (j + 2) < 0 ∧ ¬ bo = 0
      · rw [pu_fan_n h h2.1 h2.2]; dsimp only; omega
      · rw [pu_fan_z h h2]; omega
theorem pu_up32_s {f : Nat → Int32} {k : Nat} {x : Int32} : upd f k x k = x := pk_us
theorem pu_fan_pcs {P2 : Nat → Int64} {n : Nat} (hP : ∀ j, j < 6 * n → P j = P2 j) : ∀ j, j + 2 ≤ n ∨ j = 0 → (pu_fan bo P S0 T0 A0 j).1 = (pu_pcs (decide (¬ bo = 0)) P2 j).1 ∧ ∀ i, i < (pu_pcs (decide (¬ bo = 0)) P2 j).1 → (pu_fan bo P S0 T0 A0 j).2.1 i = nI ((pu_pcs (decide (¬ bo = 0)) P2 j).2.1 i) ∧ (pu_fan bo P S0 T0 A0 j).2.2.1 i = nI ((pu_pcs (decide (¬ bo = 0)) P2 j).2.2 i) ∧ (pu_fan bo P S0 T0 A0 j).2.2.2 i = (pu_ar P2 ((pu_pcs (decide (¬ bo = 0)) P2 j).2.1 i) ((pu_pcs (decide (¬ bo = 0)) P2 j).2.2 i)).toInt32 := by
  intro j
  induction j with
  | zero => intro _; exact ⟨rfl, fun i hi => absurd hi (Nat.not_lt_zero i)⟩
  | succ j ih =>
    intro hj
    obtain ⟨i1, i2⟩ := ih (by omega)
    have ea : pu_ar P (j + 1) (j + 2) = pu_ar P2 (j + 1) (j + 2) := pu_ar_congr hP (by omega) (by omega)
    by_cases h : 0 < pu_ar P2 (j + 1) (j + 2)
    · rw [pu_pcs_p h, pu_fan_p (by rw [ea]; exact h)]
      dsimp only
      refine ⟨by rw [i1], fun i hi => ?_⟩
      rw [i1, ea]
      rcases Nat.lt_or_ge i (pu_pcs (decide (¬ bo = 0)) P2 j).1 with g | g
      · rw [pk_un (by omega), pk_un (by omega), pk_un (by omega), pu_up_n (by omega), pu_up_n (by omega)]
        exact i2 i g
      · rw [show i = (pu_pcs (decide (¬ bo = 0)) P2 j).1 by omega, pk_us, pk_us, pk_us, pu_up_s, pu_up_s]
        exact ⟨rfl, rfl, rfl⟩
    · by_cases h2 : pu_ar P2 (j + 1) (j + 2) < 0 ∧ ¬ bo = 0
      · rw [pu_pcs_n h h2.1 (decide_eq_true h2.2), pu_fan_n (by rw [ea]; exact h) (by rw [ea]; exact h2.1) h2.2]
        dsimp only
        refine ⟨by rw [i1], fun i hi => ?_⟩
        rw [i1, ea]
        rcases Nat.lt_or_ge i (pu_pcs (decide (¬ bo = 0)) P2 j).1 with g | g
        · rw [pk_un (by omega), pk_un (by omega), pk_un (by omega), pu_up_n (by omega), pu_up_n (by omega)]
          exact i2 i g
        · rw [show i = (pu_pcs (decide (¬ bo = 0)) P2 j).1 by omega, pk_us, pk_us, pk_us, pu_up_s, pu_up_s, pu_ar_swap P2 (j + 1) (j + 2)]
          exact ⟨rfl, rfl, rfl⟩
      · rw [pu_pcs_z h (fun q => h2 ⟨q.1, of_decide_eq_true q.2⟩), pu_fan_z (by rw [ea]; exact h) (by rw [ea]; exact h2)]
        exact ⟨i1, i2⟩
end FAN
/-- one more side -/
theorem pu_ring_next {fo w h : Int32} {G R N0 : Nat → Int64} {s n : Nat} (hn : n = (pu_ring fo w h G s).1) (hR : ∀ j, j < 6 * n → R j = (pu_ring fo w h G s).2 j) : (pu_cs fo w h s n R N0 n).1 = (pu_ring fo w h G (s + 1)).1 ∧ ∀ j, j < 6 * (pu_cs fo w h s n R N0 n).1 → (pu_cs fo w h s n R N0 n).2 j = (pu_ring fo w h G (s + 1)).2 j := by
  have q := pu_cs_congr (fo := fo) (w := w) (h := h) (sd := s) (N0 := N0) (N2 := fun _ => 0) hR n (Nat.le_refl n)
  rw [hn] at q ⊢
  exact q
