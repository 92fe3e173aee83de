theorem mw {w c : Cond} (h : w ∈ W0) : w ∈ c :: W0 := List.mem_cons_of_mem _ h
theorem gd_1 {w c : Cond} (h : w ∈ W0) : w ∈ c :: W0 ∧ ((w.onTables && w.keeps) = true ∨ ∃ ty, w = .arrayClass ty) := ⟨mw h, W0_good w h⟩
theorem gd_0 {c cd : Cond} (h : cd ∈ W0) : GoodIn (c :: W0) (cd :: W0) := by
  intro w hw
  rcases List.mem_cons.mp hw with e | hw
  · rw [e]; exact gd_1 h
  · exact gd_1 hw
theorem gd_V {c cd : Cond} {own C : String} {idx : Nat} {y : MethodName} (h1 : Cond.methodLink own idx y ∈ W0) (h2 : Cond.instanceMethod y ∈ W0) (h3 : Cond.selects C y y ∈ W0) (h4 : Cond.initialized C ∈ W0) (h5 : cd ∈ W0) : GoodIn (c :: W0) (wsV own idx C y (cd :: W0)) := by
  intro w hw
  unfold wsV at hw
  rcases List.mem_append.mp hw with hw | hw
  · simp only [List.mem_cons, List.not_mem_nil, or_false] at hw
    rcases hw with e | e | e | e <;> rw [e]
    · exact gd_1 h1
    · exact gd_1 h2
    · exact gd_1 h3
    · exact gd_1 h4
  · exact gd_0 h5 w hw
theorem gd_S {c cd : Cond} {own : String} {idx : Nat} {y : MethodName} (h1 : Cond.methodLink own idx y ∈ W0) (h2 : Cond.static y ∈ W0) (h4 : Cond.initialized y.cls ∈ W0) (h5 : cd ∈ W0) : GoodIn (c :: W0) (va_wsS own idx y (cd :: W0)) := by
  intro w hw
  unfold va_wsS at hw
  rcases List.mem_append.mp hw with hw | hw
  · simp only [List.mem_cons, List.not_mem_nil, or_false] at hw
    rcases hw with e | e | e <;> rw [e]
    · exact gd_1 h1
    · exact gd_1 h2
    · exact gd_1 h4
  · exact gd_0 h5 w hw
/-- the links to private members of nest mates -/
def nw_all (U : State) : Prop := ∀ w ∈ nw_list, va_Nw w U
def nw_kind (w : Cond) : Bool := match w with
  | .fieldLinkNest .. => true
  | .methodLinkNest .. => true
  | _ => false
theorem nw_kinds : ∀ w ∈ nw_list, nw_kind w = true := by
  intro w h
  exact List.all_eq_true.mp (show nw_list.all nw_kind = true by decide +kernel) w h
theorem nw_tab {w : Cond} (h : nw_kind w = true) : w.onTables = true := by
  cases w <;> first | rfl | (simp [nw_kind] at h)
theorem nw_same {u U : State} (h : u.vm = U.vm) (hN : nw_all u) : nw_all U := fun w hw => va_Nw.same (nw_tab (nw_kinds w hw)) h (hN w hw)
theorem nw_warm1 {w : Cond} {s U : State} (h : nw_kind w = true) (hW : s.WarmedH U.vm) (hN : va_Nw w s) : va_Nw w U := by
  cases w <;> first | exact va_Nw.warmF hW hN | exact va_Nw.warmM hW hN | (simp [nw_kind] at h)
theorem nw_warm {s U : State} (hW : s.WarmedH U.vm) (hN : nw_all s) : nw_all U := fun w hw => nw_warm1 (nw_kinds w hw) hW (hN w hw)
abbrev ty_2 (cJ cI : ClassId) : List (ClassId × FieldType) := [(cJ, .long), (cI, .int)]
/-- what a reading method asks: the cells, the classes, the links -/
abbrev rq_ro (D : va_G) (cJ cI : ClassId) (av : List Value) (ws : va_W) : Array Value → State → Prop := va_Pc av (fun U => va_P D cls4 ws U.heap ∧ va_K D cls4 (ty_2 cJ cI) U ∧ nw_all U)
/-- what a writing method asks -/
abbrev rq_rw (D : va_G) (cJ cI : ClassId) (sz : Nat) (av : List Value) (ws : va_W) : Array Value → State → Prop := va_Pc av (fun U => U.heap.size = sz ∧ va_P D cls4 ws U.heap ∧ va_K D cls4 (ty_2 cJ cI) U ∧ nw_all U ∧ va_D (fun _ => True) ws)
/-- the world behind a writing method -/
def rz (D : va_G) (A : Nat → Prop) (ws : va_W) (_ : Unit) (t : State) : Prop := va_P D cls4 ws t.heap ∧ va_D A ws
theorem fb_ro {D : va_G} {cJ cI : ClassId} {av : List Value} {ws : va_W} : FrameBlind (rq_ro D cJ cI av ws) := by
  intro a U g mk q
  obtain ⟨q0, qP, qK, qN⟩ := q
  exact ⟨q0, qP, va_K.moved (u := U) (U := U.calling g mk a) (Vm.Alike.refl U.vm) qK, nw_same (u := U) rfl qN⟩
theorem fb_rw {D : va_G} {cJ cI : ClassId} {sz : Nat} {av : List Value} {ws : va_W} : FrameBlind (rq_rw D cJ cI sz av ws) := by
  intro a U g mk q
  obtain ⟨q0, qz, qP, qK, qN, qD⟩ := q
  exact ⟨q0, qz, qP, va_K.moved (u := U) (U := U.calling g mk a) (Vm.Alike.refl U.vm) qK, nw_same (u := U) rfl qN, qD⟩
theorem pre_ro {D : va_G} {cJ cI : ClassId} {av : List Value} {ws : va_W} {s : State} {H : Heap} (hK : va_K D cls4 (ty_2 cJ cI) s) (hN : nw_all s) (hP : va_P D cls4 ws H) : ∀ U : State, U.heap = H → s.WarmedH U.vm → rq_ro D cJ cI av ws av.toArray U :=
  fun U hU hW => ⟨rfl, by rw [hU]; exact hP, va_K.moved hW.alike hK, nw_warm hW hN⟩
theorem pre_rw {D : va_G} {cJ cI : ClassId} {av : List Value} {ws : va_W} {A : Nat → Prop} {s : State} {H : Heap} (hK : va_K D cls4 (ty_2 cJ cI) s) (hN : nw_all s) (hP : va_P D cls4 ws H) (hD : va_D A ws) : ∀ U : State, U.heap = H → s.WarmedH U.vm → rq_rw D cJ cI H.size av ws av.toArray U :=
  fun U hU hW => ⟨rfl, by rw [hU], by rw [hU]; exact hP, va_K.moved hW.alike hK, nw_warm hW hN, hD.weaken (fun _ _ _ _ => trivial)⟩
theorem va_nil {D : va_G} {cl : List vw_C} {H : Heap} : va_P D cl [] H := fun k q h => by simp at h
theorem nk_set_0 : (0 : Int32) = nI 0 := rfl
theorem nk_set_1 : (1 : Int32) = nI 1 := rfl
theorem nk_set_2 : (2 : Int32) = nI 2 := rfl
theorem nk_set_3 : (3 : Int32) = nI 3 := rfl
theorem nk_set_4 : (4 : Int32) = nI 4 := rfl
theorem nk_set_5 : (5 : Int32) = nI 5 := rfl
theorem nk_set_6 : (6 : Int32) = nI 6 := rfl
theorem nk_set_7 : (7 : Int32) = nI 7 := rfl
theorem nk_set_12 : (12 : Int32) = nI 12 := rfl
theorem nk_set_13 : (13 : Int32) = nI 13 := rfl
theorem nk_set_18 : (18 : Int32) = nI 18 := rfl
