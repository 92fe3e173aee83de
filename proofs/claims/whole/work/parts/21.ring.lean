/-! Rings of corners, pure: rows of six numbers; a side's number; one cut; five cuts. -/
def pu_side (fo w h : Int32) (sd : Nat) (R : Nat → Int64) (c : Nat) : Int64 := match sd with
  | 0 => R (6 * c + 2) - 4096
  | 1 => fo.toInt64 * R (6 * c) + w.toInt64 * R (6 * c + 2)
  | 2 => w.toInt64 * R (6 * c + 2) - fo.toInt64 * R (6 * c)
  | 3 => fo.toInt64 * R (6 * c + 1) + h.toInt64 * R (6 * c + 2)
  | _ => h.toInt64 * R (6 * c + 2) - fo.toInt64 * R (6 * c + 1)
def pu_sideI (fo w h : Int) (sd : Nat) (x y z : Int) : Int := match sd with
  | 0 => z - 4096
  | 1 => fo * x + w * z
  | 2 => w * z - fo * x
  | 3 => fo * y + h * z
  | _ => h * z - fo * y
def pu_in (x : Int64) (M : Int) : Prop := -M ≤ x.toInt ∧ x.toInt ≤ M
def pu_fit (fo w h : Int32) : Prop := (8 ≤ fo.toInt ∧ fo.toInt ≤ 512) ∧ (8 ≤ w.toInt ∧ w.toInt ≤ 48) ∧ (8 ≤ h.toInt ∧ h.toInt ≤ 48)
theorem pu_mulB {a b A B : Int} (ha : -A ≤ a ∧ a ≤ A) (hb : -B ≤ b ∧ b ≤ B) : -(A * B) ≤ a * b ∧ a * b ≤ A * B := by
  have h1 := Int.mul_nonneg (show 0 ≤ A - a by omega) (show 0 ≤ B + b by omega)
  have h2 := Int.mul_nonneg (show 0 ≤ A + a by omega) (show 0 ≤ B - b by omega)
  have h3 := Int.mul_nonneg (show 0 ≤ A - a by omega) (show 0 ≤ B - b by omega)
  have h4 := Int.mul_nonneg (show 0 ≤ A + a by omega) (show 0 ≤ B + b by omega)
  have e1 : (A - a) * (B + b) + (A + a) * (B - b) = 2 * (A * B) - 2 * (a * b) := by grind
  have e2 : (A - a) * (B - b) + (A + a) * (B + b) = 2 * (A * B) + 2 * (a * b) := by grind
  omega
theorem pu_mul64 {x y : Int64} {A B : Int} (hx : pu_in x A) (hy : pu_in y B) (hAB : A * B < 2 ^ 63) : (x * y).toInt = x.toInt * y.toInt ∧ pu_in (x * y) (A * B) := by
  have h := pu_mulB hx hy
  have e : (x * y).toInt = x.toInt * y.toInt := Jvm.Kit.i64_mul (by omega) (by omega)
  exact ⟨e, by unfold pu_in; rw [e]; exact h⟩
theorem pu_add64 {x y : Int64} {A B : Int} (hx : pu_in x A) (hy : pu_in y B) (hAB : A + B < 2 ^ 63) : (x + y).toInt = x.toInt + y.toInt ∧ pu_in (x + y) (A + B) := by
  unfold pu_in at hx hy
  have e : (x + y).toInt = x.toInt + y.toInt := Jvm.Kit.i64_add (by omega) (by omega)
  exact ⟨e, by unfold pu_in; rw [e]; omega⟩
theorem pu_sub64 {x y : Int64} {A B : Int} (hx : pu_in x A) (hy : pu_in y B) (hAB : A + B < 2 ^ 63) : (x - y).toInt = x.toInt - y.toInt ∧ pu_in (x - y) (A + B) := by
  unfold pu_in at hx hy
  have e : (x - y).toInt = x.toInt - y.toInt := Jvm.Kit.i64_sub (by omega) (by omega)
  exact ⟨e, by unfold pu_in; rw [e]; omega⟩
theorem pu_of32 {x : Int32} {A : Int} (h : -A ≤ x.toInt ∧ x.toInt ≤ A) : pu_in x.toInt64 A := by
  unfold pu_in; rw [Jvm.Kit.i64_of_i32]; exact h
theorem pu_4096 : (4096 : Int64).toInt = 4096 := by decide
/-- corners of a ring: x, y, z in their bounds -/
def pu_c3 (x y z : Int64) : Prop := pu_in x 16777216 ∧ pu_in y 16777216 ∧ pu_in z 16777216
theorem pu_side_toInt {fo w h : Int32} (hf : pu_fit fo w h) (sd : Nat) {R : Nat → Int64} {c : Nat} (hc : pu_c3 (R (6 * c)) (R (6 * c + 1)) (R (6 * c + 2))) :
    (pu_side fo w h sd R c).toInt = pu_sideI fo.toInt w.toInt h.toInt sd (R (6 * c)).toInt (R (6 * c + 1)).toInt (R (6 * c + 2)).toInt ∧ pu_in (pu_side fo w h sd R c) 10000000000 := by
  obtain ⟨hx, hy, hz⟩ := hc
  obtain ⟨f1, w1, h1⟩ := hf
  have hfo : pu_in fo.toInt64 512 := pu_of32 (by omega)
  have hw : pu_in w.toInt64 48 := pu_of32 (by omega)
  have hh : pu_in h.toInt64 48 := pu_of32 (by omega)
  obtain ⟨ax, bx⟩ := pu_mul64 hfo hx (by decide)
  obtain ⟨ay, by'⟩ := pu_mul64 hfo hy (by decide)
  obtain ⟨aw, bw⟩ := pu_mul64 hw hz (by decide)
  obtain ⟨ah, bh⟩ := pu_mul64 hh hz (by decide)
  rw [Jvm.Kit.i64_of_i32] at ax ay aw ah
  have wide : ∀ {v : Int64} {A : Int}, pu_in v A → A ≤ 10000000000 → pu_in v 10000000000 := fun hv hA => ⟨by have := hv.1; omega, by have := hv.2; omega⟩
  match sd with
  | 0 =>
    have h4 : pu_in (4096 : Int64) 4096 := by unfold pu_in; rw [pu_4096]; omega
    obtain ⟨e, b⟩ := pu_sub64 hz h4 (by decide)
    exact ⟨by show (_ - _ : Int64).toInt = _; rw [e, pu_4096]; rfl, wide b (by decide)⟩
  | 1 =>
    obtain ⟨e, b⟩ := pu_add64 bx bw (by decide)
    exact ⟨by show (_ + _ : Int64).toInt = _; rw [e, ax, aw]; rfl, wide b (by decide)⟩
  | 2 =>
    obtain ⟨e, b⟩ := pu_sub64 bw bx (by decide)
    exact ⟨by show (_ - _ : Int64).toInt = _; rw [e, ax, aw]; rfl, wide b (by decide)⟩
  | 3 =>
    obtain ⟨e, b⟩ := pu_add64 by' bh (by decide)
    exact ⟨by show (_ + _ : Int64).toInt = _; rw [e, ay, ah]; rfl, wide b (by decide)⟩
  | n + 4 =>
    obtain ⟨e, b⟩ := pu_sub64 bh by' (by decide)
    exact ⟨by show (_ - _ : Int64).toInt = _; rw [e, ay, ah]; rfl, wide b (by decide)⟩
/-- the new corner between p (stays, number a) and q (number b), number k of its six -/
def pu_btw (p q a b : Int64) : Int64 := p + pu_div ((q - p) * a) (a - b)
theorem pu_btw_d {a b : Int64} (ha : pu_in a 10000000000) (hb : pu_in b 10000000000) (h1 : 0 ≤ a) (h2 : ¬ 0 ≤ b) : 0 ≤ a.toInt ∧ b.toInt < 0 ∧ (a - b).toInt = a.toInt - b.toInt := by
  rw [Jvm.Kit.i64_nonneg] at h1 h2
  exact ⟨h1, by omega, (pu_sub64 ha hb (by decide)).1⟩
theorem pu_btw_toInt {p q a b : Int64} (hp : pu_in p 16777216) (hq : pu_in q 16777216) (ha : pu_in a 10000000000) (hb : pu_in b 10000000000) (h1 : 0 ≤ a) (h2 : ¬ 0 ≤ b) :
    (pu_btw p q a b).toInt = p.toInt + (q.toInt - p.toInt) * a.toInt / (a.toInt - b.toInt) ∧ pu_in (pu_btw p q a b) 16777216 := by
  obtain ⟨ha0, hb0, hd⟩ := pu_btw_d ha hb h1 h2
  obtain ⟨e1, b1⟩ := pu_sub64 hq hp (by decide)
  obtain ⟨e2, b2⟩ := pu_mul64 b1 ha (by decide)
  have e3 : (pu_div ((q - p) * a) (a - b)).toInt = (q.toInt - p.toInt) * a.toInt / (a.toInt - b.toInt) := by
    rw [pu_div_toInt (by rw [hd]; omega), hd, e2, e1]
  have m := pu_mid (p := p.toInt) (q := q.toInt) (a := a.toInt) (d := a.toInt - b.toInt) (M := 16777216) ha0 (by omega) (by omega) hp hq
  have hp' := hp.1
  have hp2 := hp.2
  have e4 : (pu_btw p q a b).toInt = p.toInt + (q.toInt - p.toInt) * a.toInt / (a.toInt - b.toInt) := by
    unfold pu_btw
    rw [Jvm.Kit.i64_add (by rw [e3]; omega) (by rw [e3]; omega), e3]
  exact ⟨e4, by unfold pu_in; rw [e4]; exact m⟩
def pu_put (N : Nat → Int64) (m : Nat) (v : Nat → Int64) : Nat → Int64 := fun j => if j / 6 = m then v (j % 6) else N j
theorem pu_put_at (N : Nat → Int64) (m : Nat) (v : Nat → Int64) {k : Nat} (hk : k < 6) : pu_put N m v (6 * m + k) = v k := by
  unfold pu_put
  rw [if_pos (by omega), show (6 * m + k) % 6 = k by omega]
theorem pu_put_at0 (N : Nat → Int64) (m : Nat) (v : Nat → Int64) : pu_put N m v (6 * m) = v 0 := pu_put_at N m v (k := 0) (by decide)
theorem pu_put_ne (N : Nat → Int64) {m c : Nat} (v : Nat → Int64) {k : Nat} (hk : k < 6) (h : c ≠ m) : pu_put N m v (6 * c + k) = N (6 * c + k) := by
  unfold pu_put
  rw [if_neg (by omega)]
theorem pu_put_lt (N : Nat → Int64) {m j : Nat} (v : Nat → Int64) (h : j < 6 * m) : pu_put N m v j = N j := by
  unfold pu_put
  rw [if_neg (by omega)]
def pu_nx (n k : Nat) : Nat := if k + 1 < n then k + 1 else 0
theorem pu_nx_lt {n k : Nat} (h : k < n) : pu_nx n k < n := by unfold pu_nx; split <;> omega
def pu_new (fo w h : Int32) (sd : Nat) (R : Nat → Int64) (p q : Nat) : Nat → Int64 := fun k => pu_btw (R (6 * p + k)) (R (6 * q + k)) (pu_side fo w h sd R p) (pu_side fo w h sd R q)
/-- the first k corners of a ring of n, cut by a side -/
def pu_cs (fo w h : Int32) (sd n : Nat) (R N0 : Nat → Int64) : Nat → Nat × (Nat → Int64)
  | 0 => (0, N0)
  | k + 1 =>
    if 0 ≤ pu_side fo w h sd R k then
      if 0 ≤ pu_side fo w h sd R (pu_nx n k) then ((pu_cs fo w h sd n R N0 k).1 + 1, pu_put (pu_cs fo w h sd n R N0 k).2 (pu_cs fo w h sd n R N0 k).1 (fun j => R (6 * k + j)))
      else ((pu_cs fo w h sd n R N0 k).1 + 2, pu_put (pu_put (pu_cs fo w h sd n R N0 k).2 (pu_cs fo w h sd n R N0 k).1 (fun j => R (6 * k + j))) ((pu_cs fo w h sd n R N0 k).1 + 1) (pu_new fo w h sd R k (pu_nx n k)))
    else if 0 ≤ pu_side fo w h sd R (pu_nx n k) then ((pu_cs fo w h sd n R N0 k).1 + 1, pu_put (pu_cs fo w h sd n R N0 k).2 (pu_cs fo w h sd n R N0 k).1 (pu_new fo w h sd R (pu_nx n k) k))
    else pu_cs fo w h sd n R N0 k
theorem pu_cs_11 {fo w h : Int32} {sd n : Nat} {R N0 : Nat → Int64} {k : Nat} (h1 : 0 ≤ pu_side fo w h sd R k) (h2 : 0 ≤ pu_side fo w h sd R (pu_nx n k)) : pu_cs fo w h sd n R N0 (k + 1) = ((pu_cs fo w h sd n R N0 k).1 + 1, pu_put (pu_cs fo w h sd n R N0 k).2 (pu_cs fo w h sd n R N0 k).1 (fun j => R (6 * k + j))) := by
  rw [pu_cs, if_pos h1, if_pos h2]
theorem pu_cs_10 {fo w h : Int32} {sd n : Nat} {R N0 : Nat → Int64} {k : Nat} (h1 : 0 ≤ pu_side fo w h sd R k) (h2 : ¬ 0 ≤ pu_side fo w h sd R (pu_nx n k)) : pu_cs fo w h sd n R N0 (k + 1) = ((pu_cs fo w h sd n R N0 k).1 + 2, pu_put (pu_put (pu_cs fo w h sd n R N0 k).2 (pu_cs fo w h sd n R N0 k).1 (fun j => R (6 * k + j))) ((pu_cs fo w h sd n R N0 k).1 + 1) (pu_new fo w h sd R k (pu_nx n k))) := by
  rw [pu_cs, if_pos h1, if_neg h2]
theorem pu_cs_01 {fo w h : Int32} {sd n : Nat} {R N0 : Nat → Int64} {k : Nat} (h1 : ¬ 0 ≤ pu_side fo w h sd R k) (h2 : 0 ≤ pu_side fo w h sd R (pu_nx n k)) : pu_cs fo w h sd n R N0 (k + 1) = ((pu_cs fo w h sd n R N0 k).1 + 1, pu_put (pu_cs fo w h sd n R N0 k).2 (pu_cs fo w h sd n R N0 k).1 (pu_new fo w h sd R (pu_nx n k) k)) := by
  rw [pu_cs, if_neg h1, if_pos h2]
theorem pu_cs_00 {fo w h : Int32} {sd n : Nat} {R N0 : Nat → Int64} {k : Nat} (h1 : ¬ 0 ≤ pu_side fo w h sd R k) (h2 : ¬ 0 ≤ pu_side fo w h sd R (pu_nx n k)) : pu_cs fo w h sd n R N0 (k + 1) = pu_cs fo w h sd n R N0 k := by
  rw [pu_cs, if_neg h1, if_neg h2]
section CS
variable {fo w h : Int32} {sd n : Nat} {R N0 : Nat → Int64}
theorem pu_cs_step (k : Nat) : (pu_cs fo w h sd n R N0 k).1 ≤ (pu_cs fo w h sd n R N0 (k + 1)).1 := by
  by_cases h1 : 0 ≤ pu_side fo w h sd R k <;> by_cases h2 : 0 ≤ pu_side fo w h sd R (pu_nx n k)
  · rw [pu_cs_11 h1 h2]; dsimp only; omega
  · rw [pu_cs_10 h1 h2]; dsimp only; omega
  · rw [pu_cs_01 h1 h2]; dsimp only; omega
  · rw [pu_cs_00 h1 h2]; exact Nat.le_refl _
theorem pu_cs_mono {k j : Nat} (hkj : k ≤ j) : (pu_cs fo w h sd n R N0 k).1 ≤ (pu_cs fo w h sd n R N0 j).1 := by
  induction j with
  | zero => rw [show k = 0 by omega]; exact Nat.le_refl _
  | succ j ih =>
    rcases Nat.lt_or_ge k (j + 1) with g | g
    · exact Nat.le_trans (ih (by omega)) (pu_cs_step j)
    · rw [show k = j + 1 by omega]; exact Nat.le_refl _
/-- does the corner that comes at place k stay (place n is corner 0 again) -/
def pu_st (fo w h : Int32) (sd n : Nat) (R : Nat → Int64) (k : Nat) : Prop := 0 ≤ pu_side fo w h sd R (if k < n then k else 0)
theorem pu_st_lt {k : Nat} (hk : k < n) : pu_st fo w h sd n R k ↔ 0 ≤ pu_side fo w h sd R k := by
  unfold pu_st; rw [if_pos hk]
theorem pu_st_nx {k : Nat} : pu_st fo w h sd n R (k + 1) ↔ 0 ≤ pu_side fo w h sd R (pu_nx n k) := Iff.rfl
theorem pu_cs_hi : ∀ k, k ≤ n → (pu_st fo w h sd n R k → ((pu_st fo w h sd n R 0 → 2 * (pu_cs fo w h sd n R N0 k).1 + 1 ≤ 3 * k + 1) ∧ (¬ pu_st fo w h sd n R 0 → 2 * (pu_cs fo w h sd n R N0 k).1 + 1 ≤ 3 * k))) ∧ (¬ pu_st fo w h sd n R k → ((pu_st fo w h sd n R 0 → 2 * (pu_cs fo w h sd n R N0 k).1 ≤ 3 * k + 1) ∧ (¬ pu_st fo w h sd n R 0 → 2 * (pu_cs fo w h sd n R N0 k).1 ≤ 3 * k))) := by
  intro k
  induction k with
  | zero =>
    intro _
    have : (pu_cs fo w h sd n R N0 0).1 = 0 := rfl
    refine ⟨fun h1 => ⟨fun _ => by omega, fun g => absurd h1 g⟩, fun h1 => ⟨fun g => absurd g h1, fun _ => by omega⟩⟩
  | succ k ih =>
    intro hk
    obtain ⟨i1, i2⟩ := ih (by omega)
    by_cases h1 : 0 ≤ pu_side fo w h sd R k <;> by_cases h2 : 0 ≤ pu_side fo w h sd R (pu_nx n k)
    · have g := i1 ((pu_st_lt (by omega)).mpr h1)
      rw [pu_cs_11 h1 h2]
      refine ⟨fun _ => ⟨fun q => by have := g.1 q; dsimp only; omega, fun q => by have := g.2 q; dsimp only; omega⟩, fun q => absurd (pu_st_nx.mpr h2) q⟩
    · have g := i1 ((pu_st_lt (by omega)).mpr h1)
      rw [pu_cs_10 h1 h2]
      refine ⟨fun q => absurd (pu_st_nx.mp q) h2, fun _ => ⟨fun q => by have := g.1 q; dsimp only; omega, fun q => by have := g.2 q; dsimp only; omega⟩⟩
    · have g := i2 (fun q => h1 ((pu_st_lt (by omega)).mp q))
      rw [pu_cs_01 h1 h2]
      refine ⟨fun _ => ⟨fun q => by have := g.1 q; dsimp only; omega, fun q => by have := g.2 q; dsimp only; omega⟩, fun q => absurd (pu_st_nx.mpr h2) q⟩
    · have g := i2 (fun q => h1 ((pu_st_lt (by omega)).mp q))
      rw [pu_cs_00 h1 h2]
      refine ⟨fun q => absurd (pu_st_nx.mp q) h2, fun _ => ⟨fun q => by have := g.1 q; omega, fun q => by have := g.2 q; omega⟩⟩
theorem pu_st_n : pu_st fo w h sd n R n ↔ pu_st fo w h sd n R 0 := by
  unfold pu_st
  rw [if_neg (by omega)]
  split <;> exact Iff.rfl
/-- a side leaves at most half as many more -/
theorem pu_cs_most : 2 * (pu_cs fo w h sd n R N0 n).1 ≤ 3 * n := by
  obtain ⟨h1, h2⟩ := pu_cs_hi (fo := fo) (w := w) (h := h) (sd := sd) (R := R) (N0 := N0) n (Nat.le_refl n)
  by_cases g : pu_st fo w h sd n R 0
  · have := (h1 (pu_st_n.mpr g)).1 g; omega
  · have := (h2 (fun q => g (pu_st_n.mp q))).2 g; omega
theorem pu_cs_lo : ∀ k, k ≤ n → (pu_st fo w h sd n R 0 → (pu_st fo w h sd n R k → (pu_cs fo w h sd n R N0 k).1 = k ∨ 3 ≤ (pu_cs fo w h sd n R N0 k).1) ∧ (¬ pu_st fo w h sd n R k → 2 ≤ (pu_cs fo w h sd n R N0 k).1)) ∧ (¬ pu_st fo w h sd n R 0 → (pu_st fo w h sd n R k → 1 ≤ (pu_cs fo w h sd n R N0 k).1) ∧ (¬ pu_st fo w h sd n R k → (pu_cs fo w h sd n R N0 k).1 = 0 ∨ 3 ≤ (pu_cs fo w h sd n R N0 k).1)) := by
  intro k
  induction k with
  | zero =>
    intro _
    have : (pu_cs fo w h sd n R N0 0).1 = 0 := rfl
    refine ⟨fun g => ⟨fun _ => Or.inl this, fun q => absurd g q⟩, fun g => ⟨fun q => absurd q g, fun _ => Or.inl this⟩⟩
  | succ k ih =>
    intro hk
    obtain ⟨i1, i2⟩ := ih (by omega)
    by_cases h1 : 0 ≤ pu_side fo w h sd R k <;> by_cases h2 : 0 ≤ pu_side fo w h sd R (pu_nx n k)
    · have s1 := (pu_st_lt (sd := sd) (R := R) (fo := fo) (w := w) (h := h) (show k < n by omega)).mpr h1
      rw [pu_cs_11 h1 h2]
      refine ⟨fun g => ⟨fun _ => ?_, fun q => absurd (pu_st_nx.mpr h2) q⟩, fun g => ⟨fun _ => by dsimp only; omega, fun q => absurd (pu_st_nx.mpr h2) q⟩⟩
      have := (i1 g).1 s1
      dsimp only
      omega
    · have s1 := (pu_st_lt (sd := sd) (R := R) (fo := fo) (w := w) (h := h) (show k < n by omega)).mpr h1
      rw [pu_cs_10 h1 h2]
      refine ⟨fun g => ⟨fun q => absurd (pu_st_nx.mp q) h2, fun _ => by dsimp only; omega⟩, fun g => ⟨fun q => absurd (pu_st_nx.mp q) h2, fun _ => ?_⟩⟩
      have := (i2 g).1 s1
      dsimp only
      omega
    · have s1 : ¬ pu_st fo w h sd n R k := fun q => h1 ((pu_st_lt (by omega)).mp q)
      rw [pu_cs_01 h1 h2]
      refine ⟨fun g => ⟨fun _ => ?_, fun q => absurd (pu_st_nx.mpr h2) q⟩, fun g => ⟨fun _ => by dsimp only; omega, fun q => absurd (pu_st_nx.mpr h2) q⟩⟩
      have := (i1 g).2 s1
      dsimp only
      omega
    · have s1 : ¬ pu_st fo w h sd n R k := fun q => h1 ((pu_st_lt (by omega)).mp q)
      rw [pu_cs_00 h1 h2]
      refine ⟨fun g => ⟨fun q => absurd (pu_st_nx.mp q) h2, fun _ => (i1 g).2 s1⟩, fun g => ⟨fun q => absurd (pu_st_nx.mp q) h2, fun _ => (i2 g).2 s1⟩⟩
/-- of three or more corners a side leaves none, or three or more -/
theorem pu_cs_least (h3 : n = 0 ∨ 3 ≤ n) : (pu_cs fo w h sd n R N0 n).1 = 0 ∨ 3 ≤ (pu_cs fo w h sd n R N0 n).1 := by
  obtain ⟨h1, h2⟩ := pu_cs_lo (fo := fo) (w := w) (h := h) (sd := sd) (R := R) (N0 := N0) n (Nat.le_refl n)
  by_cases g : pu_st fo w h sd n R 0
  · have := (h1 g).1 (pu_st_n.mpr g); omega
  · have := (h2 g).2 (fun q => g (pu_st_n.mp q)); omega
theorem pu_cs_all (P : Int64 → Int64 → Int64 → Prop) (hr : ∀ c, c < n → 0 ≤ pu_side fo w h sd R c → P (R (6 * c)) (R (6 * c + 1)) (R (6 * c + 2)))
    (hn : ∀ p q, p < n → q < n → 0 ≤ pu_side fo w h sd R p → ¬ 0 ≤ pu_side fo w h sd R q → P (pu_new fo w h sd R p q 0) (pu_new fo w h sd R p q 1) (pu_new fo w h sd R p q 2)) :
    ∀ k, k ≤ n → ∀ c, c < (pu_cs fo w h sd n R N0 k).1 → P ((pu_cs fo w h sd n R N0 k).2 (6 * c)) ((pu_cs fo w h sd n R N0 k).2 (6 * c + 1)) ((pu_cs fo w h sd n R N0 k).2 (6 * c + 2)) := by
  have put : ∀ (N : Nat → Int64) (m : Nat) (v : Nat → Int64), (∀ c, c < m → P (N (6 * c)) (N (6 * c + 1)) (N (6 * c + 2))) → P (v 0) (v 1) (v 2) → ∀ c, c < m + 1 → P (pu_put N m v (6 * c)) (pu_put N m v (6 * c + 1)) (pu_put N m v (6 * c + 2)) := by
    intro N m v hN hv c hc
    rcases Nat.lt_or_ge c m with g | g
    · rw [pu_put_lt N v (show 6 * c < 6 * m by omega), pu_put_lt N v (show 6 * c + 1 < 6 * m by omega), pu_put_lt N v (show 6 * c + 2 < 6 * m by omega)]
      exact hN c g
    · have e : c = m := by omega
      subst e
      rw [pu_put_at0, pu_put_at N c v (k := 1) (by decide), pu_put_at N c v (k := 2) (by decide)]
      exact hv
  intro k
  induction k with
  | zero => intro _ c hc; exact absurd hc (Nat.not_lt_zero c)
  | succ k ih =>
    intro hk c hc
    have i := ih (by omega)
    have hx : pu_nx n k < n := pu_nx_lt (by omega)
    by_cases h1 : 0 ≤ pu_side fo w h sd R k <;> by_cases h2 : 0 ≤ pu_side fo w h sd R (pu_nx n k)
    · rw [pu_cs_11 h1 h2] at hc ⊢
      exact put _ _ (fun j => R (6 * k + j)) i (hr k (by omega) h1) c hc
    · rw [pu_cs_10 h1 h2] at hc ⊢
      exact put _ _ _ (put _ _ (fun j => R (6 * k + j)) i (hr k (by omega) h1)) (hn k _ (by omega) hx h1 h2) c hc
    · rw [pu_cs_01 h1 h2] at hc ⊢
      exact put _ _ _ i (hn _ k hx (by omega) h2 h1) c hc
    · rw [pu_cs_00 h1 h2] at hc ⊢
      exact i c hc
/-- two arrays that agree on a ring's rows give rings that agree -/
theorem pu_side_congr {R2 : Nat → Int64} {c : Nat} (hc : c < n) (hR : ∀ j, j < 6 * n → R j = R2 j) : pu_side fo w h sd R c = pu_side fo w h sd R2 c := by
  unfold pu_side
  rw [hR (6 * c) (by omega), hR (6 * c + 1) (by omega), hR (6 * c + 2) (by omega)]
theorem pu_put_congr {N N2 v v2 : Nat → Int64} {m : Nat} (hN : ∀ j, j < 6 * m → N j = N2 j) (hv : ∀ k, k < 6 → v k = v2 k) : ∀ j, j < 6 * (m + 1) → pu_put N m v j = pu_put N2 m v2 j := by
  intro j hj
  unfold pu_put
  by_cases q : j / 6 = m
  · rw [if_pos q, if_pos q, hv _ (Nat.mod_lt _ (by decide))]
  · rw [if_neg q, if_neg q, hN j (by omega)]
theorem pu_cs_congr {R2 N2 : Nat → Int64} (hR : ∀ j, j < 6 * n → R j = R2 j) : ∀ k, k ≤ n → (pu_cs fo w h sd n R N0 k).1 = (pu_cs fo w h sd n R2 N2 k).1 ∧ ∀ j, j < 6 * (pu_cs fo w h sd n R N0 k).1 → (pu_cs fo w h sd n R N0 k).2 j = (pu_cs fo w h sd n R2 N2 k).2 j := by
  intro k
  induction k with
  | zero => intro _; exact ⟨rfl, fun j hj => absurd hj (Nat.not_lt_zero j)⟩
  | succ k ih =>
    intro hk
    obtain ⟨i1, i2⟩ := ih (by omega)
    have hx : pu_nx n k < n := pu_nx_lt (by omega)
    have s1 := pu_side_congr (fo := fo) (w := w) (h := h) (sd := sd) (show k < n by omega) hR
    have s2 := pu_side_congr (fo := fo) (w := w) (h := h) (sd := sd) hx hR
    have row : ∀ q, q < 6 → R (6 * k + q) = R2 (6 * k + q) := fun q hq => hR _ (by omega)
    have nw : ∀ a b, a < n → b < n → ∀ q, q < 6 → pu_new fo w h sd R a b q = pu_new fo w h sd R2 a b q := by
      intro a b ha hb q hq
      unfold pu_new
      rw [hR (6 * a + q) (by omega), hR (6 * b + q) (by omega), pu_side_congr ha hR, pu_side_congr hb hR]
    by_cases h1 : 0 ≤ pu_side fo w h sd R k <;> by_cases h2 : 0 ≤ pu_side fo w h sd R (pu_nx n k)
    · rw [pu_cs_11 h1 h2, pu_cs_11 (by rw [← s1]; exact h1) (by rw [← s2]; exact h2)]
      dsimp only
      rw [← i1]
      exact ⟨rfl, pu_put_congr i2 row⟩
    · rw [pu_cs_10 h1 h2, pu_cs_10 (by rw [← s1]; exact h1) (by rw [← s2]; exact h2)]
      dsimp only
      rw [← i1]
      exact ⟨rfl, pu_put_congr (pu_put_congr i2 row) (nw _ _ (by omega) hx)⟩
    · rw [pu_cs_01 h1 h2, pu_cs_01 (by rw [← s1]; exact h1) (by rw [← s2]; exact h2)]
      dsimp only
      rw [← i1]
      exact ⟨rfl, pu_put_congr i2 (nw _ _ hx (by omega))⟩
    · rw [pu_cs_00 h1 h2, pu_cs_00 (by rw [← s1]; exact h1) (by rw [← s2]; exact h2)]
      exact ⟨i1, i2⟩
end CS
/-- what is known of a corner after the sides 0 .. s - 1 -/
def pu_inv (fo w h : Int32) (s : Nat) (x y z : Int64) : Prop := pu_c3 x y z ∧ (1 ≤ s → 4096 ≤ z.toInt) ∧ ∀ t : Nat, 1 ≤ t → t < s → -(560 * ((s : Int) - t)) ≤ pu_sideI fo.toInt w.toInt h.toInt t x.toInt y.toInt z.toInt
theorem pu_sideI_lin {fo w h : Int} (t : Nat) (ht : 1 ≤ t) : (∃ al be : Int, (al = fo ∨ al = -fo) ∧ (be = w ∨ be = h) ∧ ∀ x y z, pu_sideI fo w h t x y z = al * x + be * z) ∨ (∃ al be : Int, (al = fo ∨ al = -fo) ∧ (be = w ∨ be = h) ∧ ∀ x y z, pu_sideI fo w h t x y z = al * y + be * z) := by
  match t, ht with
  | 1, _ => exact Or.inl ⟨fo, w, Or.inl rfl, Or.inl rfl, fun x y z => rfl⟩
  | 2, _ => exact Or.inl ⟨-fo, w, Or.inr rfl, Or.inl rfl, fun x y z => by show w * z - fo * x = _; rw [Int.neg_mul]; omega⟩
  | 3, _ => exact Or.inr ⟨fo, h, Or.inl rfl, Or.inr rfl, fun x y z => rfl⟩
  | n + 4, _ => exact Or.inr ⟨-fo, h, Or.inr rfl, Or.inr rfl, fun x y z => by show h * z - fo * y = _; rw [Int.neg_mul]; omega⟩
theorem pu_inv_step {fo w h : Int32} (hf : pu_fit fo w h) {s n : Nat} {R N0 : Nat → Int64} (hR : ∀ c, c < n → pu_inv fo w h s (R (6 * c)) (R (6 * c + 1)) (R (6 * c + 2))) :
    ∀ c, c < (pu_cs fo w h s n R N0 n).1 → pu_inv fo w h (s + 1) ((pu_cs fo w h s n R N0 n).2 (6 * c)) ((pu_cs fo w h s n R N0 n).2 (6 * c + 1)) ((pu_cs fo w h s n R N0 n).2 (6 * c + 2)) := by
  refine pu_cs_all (pu_inv fo w h (s + 1)) ?_ ?_ n (Nat.le_refl n)
  · intro c hc hs
    obtain ⟨h3, hz, hI⟩ := hR c hc
    obtain ⟨e, -⟩ := pu_side_toInt hf s h3
    rw [Jvm.Kit.i64_nonneg, e] at hs
    refine ⟨h3, fun _ => ?_, fun t t1 t2 => ?_⟩
    · match s, hs, hz with
      | 0, hs, _ => have q : 0 ≤ (R (6 * c + 2)).toInt - 4096 := hs; omega
      | s + 1, _, hz => exact hz (by omega)
    · rcases Nat.lt_or_ge t s with g | g
      · have := hI t t1 g; omega
      · have e2 : t = s := by omega
        subst e2
        omega
  · intro p q hp hq h1 h2
    obtain ⟨p3, pz, pI⟩ := hR p hp
    obtain ⟨q3, qz, qI⟩ := hR q hq
    obtain ⟨ea, ba⟩ := pu_side_toInt hf s p3
    obtain ⟨eb, bb⟩ := pu_side_toInt hf s q3
    obtain ⟨x1, x2⟩ := pu_btw_toInt p3.1 q3.1 ba bb h1 h2
    obtain ⟨y1, y2⟩ := pu_btw_toInt p3.2.1 q3.2.1 ba bb h1 h2
    obtain ⟨z1, z2⟩ := pu_btw_toInt p3.2.2 q3.2.2 ba bb h1 h2
    obtain ⟨a0, b0, -⟩ := pu_btw_d ba bb h1 h2
    rw [ea] at x1 y1 z1 a0
    rw [eb] at x1 y1 z1 b0
    refine ⟨⟨x2, y2, z2⟩, fun _ => ?_, fun t t1 t2 => ?_⟩
    · show 4096 ≤ (pu_btw _ _ _ _).toInt
      rw [z1]
      rcases Nat.eq_zero_or_pos s with e0 | e0
      · subst e0
        have a1 : 0 ≤ (R (6 * p + 2)).toInt - 4096 := a0
        have b1 : (R (6 * q + 2)).toInt - 4096 < 0 := b0
        show 4096 ≤ (R (6 * p + 2)).toInt + ((R (6 * q + 2)).toInt - (R (6 * p + 2)).toInt) * ((R (6 * p + 2)).toInt - 4096) / (((R (6 * p + 2)).toInt - 4096) - ((R (6 * q + 2)).toInt - 4096))
        generalize (R (6 * p + 2)).toInt = P at a1 ⊢
        generalize (R (6 * q + 2)).toInt = K at b1 ⊢
        have e9 : (K - P) * (P - 4096) = (-(P - 4096)) * ((P - 4096) - (K - 4096)) := by grind
        rw [e9, Int.mul_ediv_cancel _ (by omega)]
        omega
      · exact pu_midLow a0 (by omega) (by omega) (pz e0) (qz e0)
    · show _ ≤ pu_sideI _ _ _ t (pu_btw (R (6 * p)) (R (6 * q)) _ _).toInt (pu_btw _ _ _ _).toInt (pu_btw _ _ _ _).toInt
      rw [x1, y1, z1]
      obtain ⟨f1, w1, h1'⟩ := hf
      rcases Nat.lt_or_ge t s with g | g
      · have gp := pI t t1 g
        have gq := qI t t1 g
        rcases pu_sideI_lin (fo := fo.toInt) (w := w.toInt) (h := h.toInt) t t1 with ⟨al, be, hal, hbe, hL⟩ | ⟨al, be, hal, hbe, hL⟩
        · rw [hL] at gp gq ⊢
          refine Int.le_trans ?_ (pu_lin (e := 560 * ((s : Int) - t)) a0 ?_ ?_ ?_ ?_ gp gq) <;> omega
        · rw [hL] at gp gq ⊢
          refine Int.le_trans ?_ (pu_lin (e := 560 * ((s : Int) - t)) a0 ?_ ?_ ?_ ?_ gp gq) <;> omega
      · have e2 : t = s := by omega
        subst e2
        rcases pu_sideI_lin (fo := fo.toInt) (w := w.toInt) (h := h.toInt) t t1 with ⟨al, be, hal, hbe, hL⟩ | ⟨al, be, hal, hbe, hL⟩
        · simp only [hL] at a0 b0 ⊢
          refine Int.le_trans ?_ (pu_linS (al := al) (be := be) a0 b0 ?_ ?_ rfl rfl) <;> omega
        · simp only [hL] at a0 b0 ⊢
          refine Int.le_trans ?_ (pu_linS (al := al) (be := be) a0 b0 ?_ ?_ rfl rfl) <;> omega
/-- the ring after the sides 0 .. s - 1 -/
def pu_ring (fo w h : Int32) (G : Nat → Int64) : Nat → Nat × (Nat → Int64)
  | 0 => (3, G)
  | s + 1 => pu_cs fo w h s (pu_ring fo w h G s).1 (pu_ring fo w h G s).2 (fun _ => 0) (pu_ring fo w h G s).1
def pu_given (G : Nat → Int64) : Prop := ∀ c, c < 3 → pu_c3 (G (6 * c)) (G (6 * c + 1)) (G (6 * c + 2))
theorem pu_ring_inv {fo w h : Int32} (hf : pu_fit fo w h) {G : Nat → Int64} (hG : pu_given G) : ∀ s, ∀ c, c < (pu_ring fo w h G s).1 → pu_inv fo w h s ((pu_ring fo w h G s).2 (6 * c)) ((pu_ring fo w h G s).2 (6 * c + 1)) ((pu_ring fo w h G s).2 (6 * c + 2)) := by
  intro s
  induction s with
  | zero => exact fun c hc => ⟨hG c hc, fun q => absurd q (by omega), fun t t1 t2 => absurd t2 (by omega)⟩
  | succ s ih => exact pu_inv_step hf ih
theorem pu_ring_least {fo w h : Int32} {G : Nat → Int64} : ∀ s, (pu_ring fo w h G s).1 = 0 ∨ 3 ≤ (pu_ring fo w h G s).1 := by
  intro s
  induction s with
  | zero => exact Or.inr (Nat.le_refl 3)
  | succ s ih => exact pu_cs_least ih
theorem pu_ring_most (fo w h : Int32) (G : Nat → Int64) : (pu_ring fo w h G 0).1 ≤ 3 ∧ (pu_ring fo w h G 1).1 ≤ 4 ∧ (pu_ring fo w h G 2).1 ≤ 6 ∧ (pu_ring fo w h G 3).1 ≤ 9 ∧ (pu_ring fo w h G 4).1 ≤ 13 ∧ (pu_ring fo w h G 5).1 ≤ 19 := by
  have st : ∀ s, 2 * (pu_ring fo w h G (s + 1)).1 ≤ 3 * (pu_ring fo w h G s).1 := fun s => pu_cs_most
  have h0 : (pu_ring fo w h G 0).1 = 3 := rfl
  have h1 : 2 * (pu_ring fo w h G 1).1 ≤ 3 * (pu_ring fo w h G 0).1 := st 0
  have h2 : 2 * (pu_ring fo w h G 2).1 ≤ 3 * (pu_ring fo w h G 1).1 := st 1
  have h3 : 2 * (pu_ring fo w h G 3).1 ≤ 3 * (pu_ring fo w h G 2).1 := st 2
  have h4 : 2 * (pu_ring fo w h G 4).1 ≤ 3 * (pu_ring fo w h G 3).1 := st 3
  have h5 : 2 * (pu_ring fo w h G 5).1 ≤ 3 * (pu_ring fo w h G 4).1 := st 4
  omega
theorem pu_ring_le {fo w h : Int32} {G : Nat → Int64} {s : Nat} (hs : s < 5) : (pu_ring fo w h G s).1 ≤ 13 ∧ (pu_ring fo w h G (s + 1)).1 ≤ 19 := by
  have q := pu_ring_most fo w h G
  match s, hs with
  | 0, _ => exact ⟨by omega, Nat.le_trans q.2.1 (by decide)⟩
  | 1, _ => exact ⟨by omega, Nat.le_trans q.2.2.1 (by decide)⟩
  | 2, _ => exact ⟨by omega, Nat.le_trans q.2.2.2.1 (by decide)⟩
  | 3, _ => exact ⟨by omega, Nat.le_trans q.2.2.2.2.1 (by decide)⟩
  | 4, _ => exact ⟨by omega, q.2.2.2.2.2⟩
