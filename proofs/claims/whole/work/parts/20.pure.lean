/-! The document's numbers, pure: DIV, the sides, one cut of a ring. All of it is this verifier's own text. -/
/-- DIV as the reference works it out -/
def pu_div (a b : Int64) : Int64 := if a < a / b * b then a / b - 1 else a / b
theorem pu_fl {a b x : Int} (hb : 0 < b) (h1 : x * b ≤ a) (h2 : a < x * b + b) : a / b = x :=
  ((Int.ediv_emod_unique (r := a - x * b) hb).mpr ⟨by rw [Int.mul_comm b x]; omega, by omega, by omega⟩).1
theorem pu_tdiv {a b : Int} (hb : 0 < b) : (0 ≤ a → a.tdiv b * b ≤ a ∧ a < a.tdiv b * b + b) ∧ (a < 0 → a ≤ a.tdiv b * b ∧ a.tdiv b * b < a + b) := by
  have h1 := Int.tdiv_mul_add_tmod a b
  have h2 := Int.tmod_lt_of_pos a hb
  have h3 := Int.lt_tmod_of_pos a hb
  refine ⟨fun h => ?_, fun h => ?_⟩
  · have h4 := Int.tmod_nonneg b h
    omega
  · have h4 := Int.tmod_nonneg (a := -a) b (by omega)
    rw [Int.neg_tmod] at h4
    omega
theorem pu_toInt (x : Int64) : -2 ^ 63 ≤ x.toInt ∧ x.toInt < 2 ^ 63 := ⟨x.le_toInt, x.toInt_lt⟩
theorem pu_toInt32 (x : Int32) : -2 ^ 31 ≤ x.toInt ∧ x.toInt < 2 ^ 31 := ⟨x.le_toInt, x.toInt_lt⟩
/-- quotient and product of the machine, by their integers, for a divisor above 0 -/
theorem pu_quot {a b : Int64} (hb : 0 < b.toInt) : (a / b).toInt = a.toInt.tdiv b.toInt ∧ (a / b * b).toInt = a.toInt.tdiv b.toInt * b.toInt := by
  have ha := pu_toInt a
  have hb2 := pu_toInt b
  have hq : (a / b).toInt = a.toInt.tdiv b.toInt := Jvm.Kit.i64_div (fun h => by omega)
  obtain ⟨t1, t2⟩ := pu_tdiv (a := a.toInt) hb
  refine ⟨hq, ?_⟩
  rw [Jvm.Kit.i64_mul, hq]
  · rw [hq]
    rcases Int.lt_or_le a.toInt 0 with h | h
    · have := t2 h; omega
    · have := t1 h; omega
  · rw [hq]
    rcases Int.lt_or_le a.toInt 0 with h | h
    · have := t2 h; omega
    · have := t1 h; omega
theorem pu_one : (1 : Int64).toInt = 1 := by decide
theorem pu_div_toInt {a b : Int64} (hb : 0 < b.toInt) : (pu_div a b).toInt = a.toInt / b.toInt := by
  have ha := pu_toInt a
  have hb2 := pu_toInt b
  obtain ⟨hq, hm⟩ := pu_quot (a := a) hb
  obtain ⟨t1, t2⟩ := pu_tdiv (a := a.toInt) hb
  have hr : -2 ^ 63 ≤ (a / b).toInt ∧ (a / b).toInt < 2 ^ 63 := pu_toInt _
  unfold pu_div
  split
  · next h =>
    rw [Int64.lt_iff_toInt_lt, hm] at h
    have hneg : a.toInt < 0 := by
      rcases Int.lt_or_le a.toInt 0 with g | g
      · exact g
      · have := t1 g; omega
    have h2 := t2 hneg
    have hle : a.toInt.tdiv b.toInt ≤ 0 := by
      rcases Int.lt_or_le 0 (a.toInt.tdiv b.toInt) with g | g
      · have : b.toInt ≤ a.toInt.tdiv b.toInt * b.toInt := by
          have := Int.mul_le_mul_of_nonneg_right (show (1 : Int) ≤ a.toInt.tdiv b.toInt by omega) (show 0 ≤ b.toInt by omega)
          omega
        omega
      · exact g
    have hlow : -2 ^ 63 ≤ a.toInt.tdiv b.toInt - 1 := by
      rcases Int.lt_or_le (a.toInt.tdiv b.toInt) (-2 ^ 63 + 1) with g | g
      · have g2 : a.toInt.tdiv b.toInt = -2 ^ 63 := by rw [hq] at hr; omega
        have g3 := Int.mul_le_mul_of_nonpos_left (a := a.toInt.tdiv b.toInt) (by omega) (show (1 : Int) ≤ b.toInt by omega)
        rw [g2] at g3 h h2
        omega
      · omega
    rw [Jvm.Kit.i64_sub (by rw [hq, pu_one]; omega) (by rw [hq, pu_one]; omega), hq, pu_one]
    refine (pu_fl hb ?_ ?_).symm
    · rw [Int.sub_mul]; omega
    · rw [Int.sub_mul]; omega
  · next h =>
    rw [Int64.lt_iff_toInt_lt, hm] at h
    rw [hq]
    refine (pu_fl hb ?_ ?_).symm
    · omega
    · rcases Int.lt_or_le a.toInt 0 with g | g
      · have := t2 g; omega
      · have := t1 g; omega
/-- between p and q, a step of a out of d -/
theorem pu_mid {p q a d M : Int} (ha : 0 ≤ a) (had : a ≤ d) (hd : 0 < d) (hp : -M ≤ p ∧ p ≤ M) (hq : -M ≤ q ∧ q ≤ M) : -M ≤ p + (q - p) * a / d ∧ p + (q - p) * a / d ≤ M := by
  rcases Int.lt_or_le q p with h | h
  · have h1 : q - p ≤ (q - p) * a / d := Int.le_ediv_of_mul_le hd (Int.mul_le_mul_of_nonpos_left (by omega) had)
    have h2 : (q - p) * a / d ≤ 0 := Int.ediv_le_of_le_mul hd (by rw [Int.zero_mul]; exact Int.mul_nonpos_of_nonpos_of_nonneg (by omega) ha)
    omega
  · have h1 : (q - p) * a / d ≤ q - p := Int.ediv_le_of_le_mul hd (Int.mul_le_mul_of_nonneg_left had (by omega))
    have h2 : 0 ≤ (q - p) * a / d := Int.ediv_nonneg (Int.mul_nonneg (by omega) ha) (by omega)
    omega
theorem pu_midLow {p q a d m : Int} (ha : 0 ≤ a) (had : a ≤ d) (hd : 0 < d) (hp : m ≤ p) (hq : m ≤ q) : m ≤ p + (q - p) * a / d := by
  rcases Int.lt_or_le q p with h | h
  · have h1 : q - p ≤ (q - p) * a / d := Int.le_ediv_of_mul_le hd (Int.mul_le_mul_of_nonpos_left (by omega) had)
    omega
  · have h2 : 0 ≤ (q - p) * a / d := Int.ediv_nonneg (Int.mul_nonneg (by omega) ha) (by omega)
    omega
/-- a floor, times a factor of at most k: what the rounding costs -/
theorem pu_cost {N d al k : Int} (hd : 0 < d) (h1 : -k ≤ al) (h2 : al ≤ k) : al * N - k * d ≤ d * (al * (N / d)) := by
  have e1 : d * (N / d) ≤ N := Int.mul_ediv_self_le (by omega)
  have e2 : N < d * (N / d) + d := Int.lt_mul_ediv_self_add hd
  have e3 : d * (al * (N / d)) = al * (d * (N / d)) := by rw [← Int.mul_assoc, Int.mul_comm d al, Int.mul_assoc]
  rw [e3]
  generalize d * (N / d) = F at e1 e2 ⊢
  rcases Int.lt_or_le al 0 with h | h
  · have h3 : al * N ≤ al * F := Int.mul_le_mul_of_nonpos_left (by omega) e1
    have h4 : 0 ≤ k * d := Int.mul_nonneg (by omega) (by omega)
    omega
  · have h3 : al * N ≤ al * (F + d) := Int.mul_le_mul_of_nonneg_left (by omega) h
    have h4 : al * d ≤ k * d := Int.mul_le_mul_of_nonneg_right h2 (by omega)
    rw [Int.mul_add] at h3
    omega
/-- a side's number at the new corner: at least that of the two corners, less what the rounding costs -/
theorem pu_lin {px qx pz qz a d al be e : Int} (ha : 0 ≤ a) (had : a ≤ d) (hd : 0 < d) (h1 : -512 ≤ al ∧ al ≤ 512) (h2 : -48 ≤ be ∧ be ≤ 48) (hp : -e ≤ al * px + be * pz) (hq : -e ≤ al * qx + be * qz) :
    -(e + 560) ≤ al * (px + (qx - px) * a / d) + be * (pz + (qz - pz) * a / d) := by
  have c1 := pu_cost (N := (qx - px) * a) hd h1.1 h1.2
  have c2 := pu_cost (N := (qz - pz) * a) hd h2.1 h2.2
  generalize (qx - px) * a / d = fx at c1 ⊢
  generalize (qz - pz) * a / d = fz at c2 ⊢
  have h3 : (d - a) * (-e) ≤ (d - a) * (al * px + be * pz) := Int.mul_le_mul_of_nonneg_left hp (by omega)
  have h4 : a * (-e) ≤ a * (al * qx + be * qz) := Int.mul_le_mul_of_nonneg_left hq ha
  refine Int.le_of_mul_le_mul_left (a := d) ?_ hd
  have e1 : d * (al * (px + fx) + be * (pz + fz)) = (d - a) * (al * px + be * pz) + a * (al * qx + be * qz) + (d * (al * fx) - al * ((qx - px) * a)) + (d * (be * fz) - be * ((qz - pz) * a)) := by grind
  have e2 : d * (-(e + 560)) = (d - a) * (-e) + a * (-e) - 512 * d - 48 * d := by grind
  rw [e1, e2]
  omega
theorem pu_linS {px qx pz qz a b al be : Int} (ha : 0 ≤ a) (hb : b < 0) (h1 : -512 ≤ al ∧ al ≤ 512) (h2 : -48 ≤ be ∧ be ≤ 48) (hp : a = al * px + be * pz) (hq : b = al * qx + be * qz) :
    -560 ≤ al * (px + (qx - px) * a / (a - b)) + be * (pz + (qz - pz) * a / (a - b)) := by
  have hd : 0 < a - b := by omega
  have c1 := pu_cost (N := (qx - px) * a) hd h1.1 h1.2
  have c2 := pu_cost (N := (qz - pz) * a) hd h2.1 h2.2
  generalize (qx - px) * a / (a - b) = fx at c1 ⊢
  generalize (qz - pz) * a / (a - b) = fz at c2 ⊢
  refine Int.le_of_mul_le_mul_left (a := a - b) ?_ hd
  have e1 : (a - b) * (al * (px + fx) + be * (pz + fz)) = (a - b) * (al * px + be * pz) + a * ((al * qx + be * qz) - (al * px + be * pz)) + ((a - b) * (al * fx) - al * ((qx - px) * a)) + ((a - b) * (be * fz) - be * ((qz - pz) * a)) := by grind
  rw [← hp, ← hq] at e1
  have e2 : (a - b) * a + a * (b - a) = 0 := by grind
  omega
