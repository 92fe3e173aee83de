theorem ri_at_v {n c k : Nat} {f : Nat → Int64} (hn : n ≤ 19) (hc : c < n) (hk : k < 6) : f_Ri_at (nI n) f (nI c) (nI k) = f (6 * c + k) := by
  unfold f_Ri_at
  rw [ri_has_1 hn hc, if_neg (by decide), if_neg (nI_pos (by omega)), if_neg (by rw [show (6 : Int32) = nI 6 from rfl, nI_leI (by decide) (by omega)]; omega), show (6 : Int32) = nI 6 from rfl, pk_mul, nI_add, nI_clamp (by omega), Nat.mul_comm c 6]
theorem ri_at_0 {n c : Nat} {f : Nat → Int64} (hn : n ≤ 19) (hc : c < n) : f_Ri_at (nI n) f (nI c) 0 = f (6 * c) := ri_at_v (k := 0) hn hc (by decide)
theorem ri_at_1 {n c : Nat} {f : Nat → Int64} (hn : n ≤ 19) (hc : c < n) : f_Ri_at (nI n) f (nI c) 1 = f (6 * c + 1) := ri_at_v (k := 1) hn hc (by decide)
theorem ri_at_2 {n c : Nat} {f : Nat → Int64} (hn : n ≤ 19) (hc : c < n) : f_Ri_at (nI n) f (nI c) 2 = f (6 * c + 2) := ri_at_v (k := 2) hn hc (by decide)
theorem ri_at_3 {n c : Nat} {f : Nat → Int64} (hn : n ≤ 19) (hc : c < n) : f_Ri_at (nI n) f (nI c) 3 = f (6 * c + 3) := ri_at_v (k := 3) hn hc (by decide)
theorem ri_at_4 {n c : Nat} {f : Nat → Int64} (hn : n ≤ 19) (hc : c < n) : f_Ri_at (nI n) f (nI c) 4 = f (6 * c + 4) := ri_at_v (k := 4) hn hc (by decide)
theorem ri_at_5 {n c : Nat} {f : Nat → Int64} (hn : n ≤ 19) (hc : c < n) : f_Ri_at (nI n) f (nI c) 5 = f (6 * c + 5) := ri_at_v (k := 5) hn hc (by decide)
/-- no corner there -/
theorem ri_at_no {n : Nat} {f : Nat → Int64} {wh : Int32} (hn : n ≤ 19) : f_Ri_at (nI n) f (-1) wh = 0 := by
  unfold f_Ri_at
  rw [ri_has_0 hn (Or.inl (by decide)), if_pos rfl]
theorem ri_at_wh {n : Nat} {f : Nat → Int64} {ix wh : Int32} (h : wh < 0 ∨ 6 ≤ wh) : f_Ri_at (nI n) f ix wh = 0 := by
  unfold f_Ri_at
  by_cases h1 : f_Ri_has (nI n) ix = 0
  · rw [if_pos h1]
  · rw [if_neg h1]
    by_cases h2 : wh < 0
    · rw [if_pos h2]
    · rw [if_neg h2, if_pos (h.resolve_left h2)]
theorem ri_put_v {n c k : Nat} {f : Nat → Int64} {v : Int64} (hn : n ≤ 19) (hc : c < n) (hk : k < 6) : f_Ri_put_1 (nI n) f (nI c) (nI k) v = vp_updL f (6 * c + k) v := by
  unfold f_Ri_put_1
  rw [ri_has_1 hn hc, if_neg (by decide), if_neg (nI_pos (by omega)), if_neg (by rw [show (6 : Int32) = nI 6 from rfl, nI_leI (by decide) (by omega)]; omega), show (6 : Int32) = nI 6 from rfl, pk_mul, nI_add, nI_clamp (by omega), Nat.mul_comm c 6]
theorem ri_addRow_n {n : Nat} (hn : n < 19) : f_Ri_addRow_0_1 (nI n) = nI (n + 1) ∧ f_Ri_addRow_r (nI n) = nI n := by
  unfold f_Ri_addRow_0_1 f_Ri_addRow_r
  have h : nI n < 19 := by rw [show (19 : Int32) = nI 19 from rfl, nI_ltI (by omega) (by decide)]; omega
  rw [if_pos h, if_pos h, nI_1, nI_pred]
  exact ⟨rfl, rfl⟩
/-- six numbers put into row m -/
def ri_six (f : Nat → Int64) (m : Nat) (v : Nat → Int64) : Nat → Int64 := vp_updL (vp_updL (vp_updL (vp_updL (vp_updL (vp_updL f (6 * m + 0) (v 0)) (6 * m + 1) (v 1)) (6 * m + 2) (v 2)) (6 * m + 3) (v 3)) (6 * m + 4) (v 4)) (6 * m + 5) (v 5)
theorem ri_six_eq (f : Nat → Int64) (m : Nat) (v : Nat → Int64) : ri_six f m v = pu_put f m v := by
  funext j
  unfold ri_six pu_put vp_updL
  by_cases h : j / 6 = m
  · rw [if_pos h]
    have hj : j = 6 * m + j % 6 := by omega
    have hl : j % 6 < 6 := Nat.mod_lt _ (by decide)
    generalize j % 6 = k at hj hl ⊢
    subst hj
    match k, hl with
    | 0, _ => rw [if_neg (by omega), if_neg (by omega), if_neg (by omega), if_neg (by omega), if_neg (by omega), if_pos rfl]
    | 1, _ => rw [if_neg (by omega), if_neg (by omega), if_neg (by omega), if_neg (by omega), if_pos rfl]
    | 2, _ => rw [if_neg (by omega), if_neg (by omega), if_neg (by omega), if_pos rfl]
    | 3, _ => rw [if_neg (by omega), if_neg (by omega), if_pos rfl]
    | 4, _ => rw [if_neg (by omega), if_pos rfl]
    | 5, _ => rw [if_pos rfl]
  · rw [if_neg h, if_neg (by omega), if_neg (by omega), if_neg (by omega), if_neg (by omega), if_neg (by omega), if_neg (by omega)]
theorem ri_puts {n m : Nat} {f : Nat → Int64} {a b c d e g : Int64} (v : Nat → Int64) (hn : n ≤ 19) (hm : m < n) (h0 : a = v 0) (h1 : b = v 1) (h2 : c = v 2) (h3 : d = v 3) (h4 : e = v 4) (h5 : g = v 5) :
    f_Ri_put_1 (nI n) (f_Ri_put_1 (nI n) (f_Ri_put_1 (nI n) (f_Ri_put_1 (nI n) (f_Ri_put_1 (nI n) (f_Ri_put_1 (nI n) f (nI m) 0 a) (nI m) 1 b) (nI m) 2 c) (nI m) 3 d) (nI m) 4 e) (nI m) 5 g = pu_put f m v := by
  rw [← ri_six_eq, show (0 : Int32) = nI 0 from rfl, show (1 : Int32) = nI 1 from rfl, show (2 : Int32) = nI 2 from rfl, show (3 : Int32) = nI 3 from rfl, show (4 : Int32) = nI 4 from rfl, show (5 : Int32) = nI 5 from rfl, ri_put_v hn hm (by decide), ri_put_v hn hm (by decide), ri_put_v hn hm (by decide), ri_put_v hn hm (by decide), ri_put_v hn hm (by decide), ri_put_v hn hm (by decide), h0, h1, h2, h3, h4, h5]
  rfl
