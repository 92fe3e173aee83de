/-! Constructors. -/
theorem in_J {D : va_G} {cl : List vw_C} {cJ cI cA : ClassId} {s : State} (h1 : va_K D cl (ty_2 cJ cI) s) (h2 : va_K D cl (ty_2 cJ cI ++ [(cA, .long)]) s) : cJ = cA :=
  Option.some.inj ((va_nm_long (h1.2 0 _ rfl).2).symm.trans (va_nm_long (h2.2 2 _ rfl).2))
theorem in_I {D : va_G} {cl : List vw_C} {cJ cI cA : ClassId} {s : State} (h1 : va_K D cl (ty_2 cJ cI) s) (h2 : va_K D cl (ty_2 cJ cI ++ [(cA, .int)]) s) : cI = cA :=
  Option.some.inj ((va_nm_int (h1.2 1 _ rfl).2).symm.trans (va_nm_int (h2.2 2 _ rfl).2))
def mo_clamp (x : Int32) : Int32 := if 8 ≤ x then (if x ≤ 48 then x else 48) else 8
theorem in_clamp (x : Int32) : f_PC_pictureSize x = mo_clamp x ∧ 8 ≤ (mo_clamp x).toInt ∧ (mo_clamp x).toInt ≤ 48 := by
  unfold f_PC_pictureSize mo_clamp
  have e8 : (8 : Int32).toInt = 8 := by decide
  have e48 : (48 : Int32).toInt = 48 := by decide
  by_cases h1 : x < 48
  · rw [if_pos h1]
    by_cases h2 : 8 < x
    · have a : 8 ≤ x := by rw [Int32.le_iff_toInt_le, e8]; rw [Int32.lt_iff_toInt_lt, e8] at h2; omega
      have b : x ≤ 48 := by rw [Int32.le_iff_toInt_le, e48]; rw [Int32.lt_iff_toInt_lt, e48] at h1; omega
      rw [if_pos h2, if_pos a, if_pos b]
      rw [Int32.le_iff_toInt_le, e8] at a
      rw [Int32.le_iff_toInt_le, e48] at b
      exact ⟨rfl, a, b⟩
    · rw [if_neg h2]
      by_cases a : 8 ≤ x
      · have q : x = 8 := Int32.toInt_inj.mp (by rw [Int32.le_iff_toInt_le, e8] at a; rw [Int32.lt_iff_toInt_lt, e8] at h2; rw [e8]; omega)
        rw [q]
        decide
      · rw [if_neg a]
        decide
  · rw [if_neg h1]
    by_cases b : x ≤ 48
    · have q : x = 48 := Int32.toInt_inj.mp (by rw [Int32.le_iff_toInt_le, e48] at b; rw [Int32.lt_iff_toInt_lt, e48] at h1; rw [e48]; omega)
      rw [q]
      decide
    · have a : 8 ≤ x := by rw [Int32.le_iff_toInt_le, e8]; rw [Int32.lt_iff_toInt_lt, e48] at h1; omega
      rw [if_pos a, if_neg b]
      decide
