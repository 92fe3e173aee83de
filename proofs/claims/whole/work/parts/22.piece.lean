/-! On the picture, and pieces: pure. -/
def pu_lay (fo w h : Int32) (R : Nat → Int64) (c k : Nat) : Int64 := match k with
  | 0 => pu_div (16 * fo.toInt64 * R (6 * c)) (R (6 * c + 2)) + 8 * w.toInt64
  | 1 => pu_div (16 * fo.toInt64 * R (6 * c + 1)) (R (6 * c + 2)) + 8 * h.toInt64
  | 2 => pu_div 4294967296 (R (6 * c + 2))
  | k => R (6 * c + k)
def pu_pic (fo w h : Int32) (R : Nat → Int64) : Nat → Int64 := fun j => pu_lay fo w h R (j / 6) (j % 6)
theorem pu_pic_at {fo w h : Int32} {R : Nat → Int64} (c : Nat) {k : Nat} (hk : k < 6) : pu_pic fo w h R (6 * c + k) = pu_lay fo w h R c k := by
  unfold pu_pic
  rw [show (6 * c + k) / 6 = c by omega, show (6 * c + k) % 6 = k by omega]
theorem pu_16 : (16 : Int64).toInt = 16 := by decide
theorem pu_8 : (8 : Int64).toInt = 8 := by decide
theorem pu_2p32 : (4294967296 : Int64).toInt = 4294967296 := by decide
theorem pu_xy {F Wz z : Int} (hz : 4096 ≤ z) (h1 : -2240 ≤ F + Wz) (h2 : -2240 ≤ Wz - F) (h3 : Wz ≤ 48 * z) : -784 ≤ 16 * F / z ∧ 16 * F / z ≤ 784 :=
  ⟨Int.le_ediv_of_mul_le (by omega) (by omega), Int.ediv_le_of_le_mul (by omega) (by omega)⟩
/-- a number of the picture that one coordinate gives -/
theorem pu_coord {fo w : Int32} {x z : Int64} (hfo : 8 ≤ fo.toInt ∧ fo.toInt ≤ 512) (hw : 8 ≤ w.toInt ∧ w.toInt ≤ 48) (hx : pu_in x 16777216) (hz : pu_in z 16777216) (h4 : 4096 ≤ z.toInt) (h1 : -2240 ≤ fo.toInt * x.toInt + w.toInt * z.toInt) (h2 : -2240 ≤ w.toInt * z.toInt - fo.toInt * x.toInt) :
    pu_in (pu_div (16 * fo.toInt64 * x) z + 8 * w.toInt64) 1200 := by
  have f1 : pu_in fo.toInt64 512 := pu_of32 (by omega)
  have w1 : pu_in w.toInt64 48 := pu_of32 (by omega)
  obtain ⟨e1, b1⟩ := pu_mul64 (x := 16) (y := fo.toInt64) (A := 16) (B := 512) (by unfold pu_in; rw [pu_16]; omega) f1 (by decide)
  obtain ⟨e2, b2⟩ := pu_mul64 b1 hx (by decide)
  obtain ⟨e3, b3⟩ := pu_mul64 (x := 8) (y := w.toInt64) (A := 8) (B := 48) (by unfold pu_in; rw [pu_8]; omega) w1 (by decide)
  have e4 : (pu_div (16 * fo.toInt64 * x) z).toInt = 16 * (fo.toInt * x.toInt) / z.toInt := by
    rw [pu_div_toInt (by omega), e2, e1, pu_16, Jvm.Kit.i64_of_i32, Int.mul_assoc]
  have hWz : w.toInt * z.toInt ≤ 48 * z.toInt := Int.mul_le_mul_of_nonneg_right hw.2 (by omega)
  obtain ⟨c1, c2⟩ := pu_xy h4 h1 h2 hWz
  have b4 : pu_in (pu_div (16 * fo.toInt64 * x) z) 784 := by unfold pu_in; rw [e4]; exact ⟨c1, c2⟩
  obtain ⟨e5, b5⟩ := pu_add64 b4 b3 (by decide)
  exact ⟨by have := b5.1; omega, by have := b5.2; omega⟩
theorem pu_near {z : Int64} (hz : pu_in z 16777216) (h4 : 4096 ≤ z.toInt) : 1 ≤ (pu_div 4294967296 z).toInt ∧ (pu_div 4294967296 z).toInt ≤ 1048576 := by
  have h2 := hz.2
  rw [pu_div_toInt (by omega), pu_2p32]
  exact ⟨Int.le_ediv_of_mul_le (by omega) (by omega), Int.ediv_le_of_le_mul (by omega) (by omega)⟩
/-- a corner on the picture: its bounds -/
def pu_pok (P : Nat → Int64) (c : Nat) : Prop := pu_in (P (6 * c)) 1200 ∧ pu_in (P (6 * c + 1)) 1200 ∧ 1 ≤ (P (6 * c + 2)).toInt ∧ (P (6 * c + 2)).toInt ≤ 1048576
theorem pu_pic_ok {fo w h : Int32} (hf : pu_fit fo w h) {R : Nat → Int64} {c : Nat} (hc : pu_inv fo w h 5 (R (6 * c)) (R (6 * c + 1)) (R (6 * c + 2))) : pu_pok (pu_pic fo w h R) c := by
  obtain ⟨⟨hx, hy, hz⟩, h4, hI⟩ := hc
  have h4 := h4 (by decide)
  obtain ⟨f1, w1, h1⟩ := hf
  have i1 : -(560 * (((5 : Nat) : Int) - ((1 : Nat) : Int))) ≤ fo.toInt * (R (6 * c)).toInt + w.toInt * (R (6 * c + 2)).toInt := hI 1 (by decide) (by decide)
  have i2 : -(560 * (((5 : Nat) : Int) - ((2 : Nat) : Int))) ≤ w.toInt * (R (6 * c + 2)).toInt - fo.toInt * (R (6 * c)).toInt := hI 2 (by decide) (by decide)
  have i3 : -(560 * (((5 : Nat) : Int) - ((3 : Nat) : Int))) ≤ fo.toInt * (R (6 * c + 1)).toInt + h.toInt * (R (6 * c + 2)).toInt := hI 3 (by decide) (by decide)
  have i4 : -(560 * (((5 : Nat) : Int) - ((4 : Nat) : Int))) ≤ h.toInt * (R (6 * c + 2)).toInt - fo.toInt * (R (6 * c + 1)).toInt := hI 4 (by decide) (by decide)
  refine ⟨?_, ?_, ?_⟩
  · rw [show 6 * c = 6 * c + 0 from rfl, pu_pic_at c (k := 0) (by decide)]
    exact pu_coord f1 w1 hx hz h4 (by omega) (by omega)
  · rw [pu_pic_at c (k := 1) (by decide)]
    exact pu_coord f1 h1 hy hz h4 (by omega) (by omega)
  · rw [pu_pic_at c (k := 2) (by decide)]
    exact pu_near hz h4
/-- AREA of the piece with corners 0, a, b -/
def pu_ar (P : Nat → Int64) (a b : Nat) : Int64 := (P (6 * a) - P 0) * (P (6 * b + 1) - P 1) - (P (6 * b) - P 0) * (P (6 * a + 1) - P 1)
theorem pu_ar_toInt {P : Nat → Int64} {a b : Nat} (h0 : pu_pok P 0) (ha : pu_pok P a) (hb : pu_pok P b) :
    (pu_ar P a b).toInt = ((P (6 * a)).toInt - (P 0).toInt) * ((P (6 * b + 1)).toInt - (P 1).toInt) - ((P (6 * b)).toInt - (P 0).toInt) * ((P (6 * a + 1)).toInt - (P 1).toInt) ∧ pu_in (pu_ar P a b) 11520000 := by
  obtain ⟨x0, y0, -⟩ := h0
  obtain ⟨xa, ya, -⟩ := ha
  obtain ⟨xb, yb, -⟩ := hb
  obtain ⟨e1, b1⟩ := pu_sub64 xa x0 (by decide)
  obtain ⟨e2, b2⟩ := pu_sub64 yb y0 (by decide)
  obtain ⟨e3, b3⟩ := pu_sub64 xb x0 (by decide)
  obtain ⟨e4, b4⟩ := pu_sub64 ya y0 (by decide)
  obtain ⟨e5, b5⟩ := pu_mul64 b1 b2 (by decide)
  obtain ⟨e6, b6⟩ := pu_mul64 b3 b4 (by decide)
  obtain ⟨e7, b7⟩ := pu_sub64 b5 b6 (by decide)
  refine ⟨?_, b7⟩
  show (_ - _ : Int64).toInt = _
  rw [e7, e5, e6, e1, e2, e3, e4]
theorem pu_ar_swap (P : Nat → Int64) (a b : Nat) : pu_ar P b a = -pu_ar P a b := by
  unfold pu_ar
  rw [Int64.neg_sub]
/-- the pieces of the corners 0, k, k + 1 for k = 1 .. j: how many, their second and third corners -/
def pu_pcs (both : Bool) (P : Nat → Int64) : Nat → Nat × (Nat → Nat) × (Nat → Nat)
  | 0 => (0, fun _ => 0, fun _ => 0)
  | j + 1 =>
    if 0 < pu_ar P (j + 1) (j + 2) then ((pu_pcs both P j).1 + 1, va_up (pu_pcs both P j).2.1 (pu_pcs both P j).1 (j + 1), va_up (pu_pcs both P j).2.2 (pu_pcs both P j).1 (j + 2))
    else if pu_ar P (j + 1) (j + 2) < 0 ∧ both = true then ((pu_pcs both P j).1 + 1, va_up (pu_pcs both P j).2.1 (pu_pcs both P j).1 (j + 2), va_up (pu_pcs both P j).2.2 (pu_pcs both P j).1 (j + 1))
    else pu_pcs both P j
theorem pu_pcs_p {both : Bool} {P : Nat → Int64} {j : Nat} (h : 0 < pu_ar P (j + 1) (j + 2)) : pu_pcs both P (j + 1) = ((pu_pcs both P j).1 + 1, va_up (pu_pcs both P j).2.1 (pu_pcs both P j).1 (j + 1), va_up (pu_pcs both P j).2.2 (pu_pcs both P j).1 (j + 2)) := by
  rw [pu_pcs, if_pos h]
theorem pu_pcs_n {both : Bool} {P : Nat → Int64} {j : Nat} (h : ¬ 0 < pu_ar P (j + 1) (j + 2)) (h2 : pu_ar P (j + 1) (j + 2) < 0) (hb : both = true) : pu_pcs both P (j + 1) = ((pu_pcs both P j).1 + 1, va_up (pu_pcs both P j).2.1 (pu_pcs both P j).1 (j + 2), va_up (pu_pcs both P j).2.2 (pu_pcs both P j).1 (j + 1)) := by
  rw [pu_pcs, if_neg h, if_pos ⟨h2, hb⟩]
theorem pu_pcs_z {both : Bool} {P : Nat → Int64} {j : Nat} (h : ¬ 0 < pu_ar P (j + 1) (j + 2)) (h2 : ¬ (pu_ar P (j + 1) (j + 2) < 0 ∧ both = true)) : pu_pcs both P (j + 1) = pu_pcs both P j := by
  rw [pu_pcs, if_neg h, if_neg h2]
theorem pu_up_s {α : Type} {f : Nat → α} {k : Nat} {v : α} : va_up f k v k = v := by unfold va_up; rw [if_pos rfl]
theorem pu_up_n {α : Type} {f : Nat → α} {k j : Nat} {v : α} (h : j ≠ k) : va_up f k v j = f j := by unfold va_up; rw [if_neg h]
/-- what a state of the cutter shows: how many pieces, their second and third corners, the corners on the picture -/
def pu_vok (cnt pn : Nat) (S T : Nat → Nat) (P : Nat → Int64) : Prop := cnt ≤ 17 ∧ pn ≤ 19 ∧ ∀ i, i < cnt → S i < pn ∧ T i < pn ∧ pu_pok P 0 ∧ pu_pok P (S i) ∧ pu_pok P (T i) ∧ 0 < (pu_ar P (S i) (T i)).toInt
theorem pu_pcs_ok {both : Bool} {P : Nat → Int64} {n : Nat} (hn : n ≤ 19) (hP : ∀ c, c < n → pu_pok P c) : ∀ j, j + 2 ≤ n ∨ j = 0 → (pu_pcs both P j).1 ≤ j ∧ ∀ i, i < (pu_pcs both P j).1 → (pu_pcs both P j).2.1 i < n ∧ (pu_pcs both P j).2.2 i < n ∧ pu_pok P 0 ∧ pu_pok P ((pu_pcs both P j).2.1 i) ∧ pu_pok P ((pu_pcs both P j).2.2 i) ∧ 0 < (pu_ar P ((pu_pcs both P j).2.1 i) ((pu_pcs both P j).2.2 i)).toInt := by
  intro j
  induction j with
  | zero => intro _; exact ⟨Nat.le_refl 0, fun i hi => absurd hi (Nat.not_lt_zero i)⟩
  | succ j ih =>
    intro hj
    obtain ⟨c1, c2⟩ := ih (by omega)
    have p0 := hP 0 (by omega)
    have p1 := hP (j + 1) (by omega)
    have p2 := hP (j + 2) (by omega)
    by_cases h : 0 < pu_ar P (j + 1) (j + 2)
    · rw [pu_pcs_p h]
      refine ⟨by dsimp only; omega, fun i hi => ?_⟩
      dsimp only at hi ⊢
      rcases Nat.lt_or_ge i (pu_pcs both P j).1 with g | g
      · rw [pu_up_n (by omega), pu_up_n (by omega)]
        exact c2 i g
      · rw [show i = (pu_pcs both P j).1 by omega, pu_up_s, pu_up_s]
        rw [Int64.lt_iff_toInt_lt, Int64.toInt_zero] at h
        exact ⟨by omega, by omega, p0, p1, p2, h⟩
    · by_cases h2 : pu_ar P (j + 1) (j + 2) < 0 ∧ both = true
      · rw [pu_pcs_n h h2.1 h2.2]
        refine ⟨by dsimp only; omega, fun i hi => ?_⟩
        dsimp only at hi ⊢
        rcases Nat.lt_or_ge i (pu_pcs both P j).1 with g | g
        · rw [pu_up_n (by omega), pu_up_n (by omega)]
          exact c2 i g
        · rw [show i = (pu_pcs both P j).1 by omega, pu_up_s, pu_up_s]
          refine ⟨by omega, by omega, p0, p2, p1, ?_⟩
          have q := h2.1
          rw [Int64.lt_iff_toInt_lt, Int64.toInt_zero] at q
          have hb := (pu_ar_toInt p0 p1 p2).2
          unfold pu_in at hb
          rw [pu_ar_swap, Jvm.Kit.i64_neg (by omega)]
          omega
      · rw [pu_pcs_z h h2]
        exact ⟨by omega, c2⟩
/-- the whole of cut -/
def pu_cutR (fo w h : Int32) (G : Nat → Int64) : Nat × (Nat → Int64) := pu_ring fo w h G 5
def pu_cutP (fo w h : Int32) (G : Nat → Int64) : Nat → Int64 := pu_pic fo w h (pu_cutR fo w h G).2
def pu_cutF (both : Bool) (fo w h : Int32) (G : Nat → Int64) : Nat × (Nat → Nat) × (Nat → Nat) := pu_pcs both (pu_cutP fo w h G) ((pu_cutR fo w h G).1 - 2)
theorem pu_cut_ok {both : Bool} {fo w h : Int32} (hf : pu_fit fo w h) {G : Nat → Int64} (hG : pu_given G) : pu_vok (pu_cutF both fo w h G).1 (pu_cutR fo w h G).1 (pu_cutF both fo w h G).2.1 (pu_cutF both fo w h G).2.2 (pu_cutP fo w h G) := by
  have hm := (pu_ring_most fo w h G).2.2.2.2.2
  have hn : (pu_cutR fo w h G).1 ≤ 19 := hm
  have hP : ∀ c, c < (pu_cutR fo w h G).1 → pu_pok (pu_cutP fo w h G) c := fun c hc => pu_pic_ok hf (pu_ring_inv hf hG 5 c hc)
  obtain ⟨c1, c2⟩ := pu_pcs_ok (both := both) hn hP ((pu_cutR fo w h G).1 - 2) (by omega)
  exact ⟨Nat.le_trans c1 (by omega), hn, c2⟩
