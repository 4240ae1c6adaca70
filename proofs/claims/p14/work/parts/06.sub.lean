/-! ===== words of the table by their places: a check over a few of them serves the whole table ===== -/
def am_sel (T : List Cond) (is : List Nat) : List Cond := is.filterMap (fun i => T[i]?)
theorem am_sel_in {T : List Cond} {is : List Nat} : ∀ c ∈ am_sel T is, c ∈ T := by
  intro c h
  obtain ⟨i, -, hi⟩ := List.mem_filterMap.mp h
  exact List.mem_of_getElem? hi
section AMSUB
variable {T T' : List Cond} {cl : List vw_C} {own host : String} {cc : ByteArray} {tab : List am_T} {is : List Nat}
theorem am_mm {c : Cond} (is : List Nat) (h : c ∈ am_sel T is) : c ∈ T := am_sel_in c h
theorem am_dm (hs : ∀ c ∈ T, c ∈ T') {c : Cond} (h : decide (c ∈ T) = true) : decide (c ∈ T') = true := decide_eq_true (hs c (of_decide_eq_true h))
theorem am_andm {x y z : Bool} (f : x = true → z = true) (h : (x && y) = true) : (z && y) = true := by
  rw [Bool.and_eq_true] at h ⊢
  exact ⟨f h.1, h.2⟩
theorem am_flm (hs : ∀ c ∈ T, c ∈ T') {idx a k : Nat} (h : am_fl T cl own host idx a k = true) : am_fl T' cl own host idx a k = true := by
  cases hq : cl[a]? with
  | none => simp [am_fl, hq] at h
  | some q =>
    simp only [am_fl, hq, Bool.and_eq_true, Bool.or_eq_true, decide_eq_true_eq] at h ⊢
    exact ⟨h.1, h.2.imp (hs _) (hs _)⟩
theorem am_xbm (hs : ∀ c ∈ T, c ∈ T') {i : Instr} {pc a k d : Nat} {cst : Int32} (h : am_xb T cl own host i pc a k d cst = true) : am_xb T' cl own host i pc a k d cst = true := by
  cases i <;> first | exact h | exact am_flm hs h | exact am_dm hs h | exact am_andm (am_flm hs) h
theorem am_okm (is : List Nat) (h : am_ok (am_sel T is) cl own host cc tab) : am_ok T cl own host cc tab := fun e he => by
  have h1 := h e he
  simp only [am_okb, Bool.and_eq_true] at h1 ⊢
  exact ⟨h1.1, am_xbm am_sel_in h1.2⟩
theorem am_cbm (hs : ∀ c ∈ T, c ∈ T') {idx n : Nat} {y : MethodName} (h : am_cb T own host idx y n = true) : am_cb T' own host idx y n = true := by
  unfold am_cb at h ⊢
  simp only [Bool.and_eq_true, Bool.or_eq_true, decide_eq_true_eq] at h ⊢
  exact ⟨⟨⟨⟨h.1.1.1.1.imp (hs _) (hs _), hs _ h.1.1.1.2⟩, h.1.1.2⟩, h.1.2⟩, h.2⟩
theorem am_cvm (is : List Nat) {idx n : Nat} {y : MethodName} (h : am_cv (am_sel T is) own host idx y n = true) : am_cv T own host idx y n = true := by
  unfold am_cv at h ⊢
  simp only [Bool.and_eq_true, decide_eq_true_eq] at h ⊢
  exact ⟨⟨am_cbm am_sel_in h.1.1, am_sel_in _ h.1.2⟩, am_sel_in _ h.2⟩
theorem am_csm (is : List Nat) {idx n : Nat} {y : MethodName} (h : am_cs (am_sel T is) own host idx y n = true) : am_cs T own host idx y n = true := by
  unfold am_cs at h ⊢
  simp only [Bool.and_eq_true, decide_eq_true_eq] at h ⊢
  exact ⟨am_cbm am_sel_in h.1, am_sel_in _ h.2⟩
theorem am_cim (is : List Nat) {idx n : Nat} {y : MethodName} (h : am_ci (am_sel T is) own host idx y n = true) : am_ci T own host idx y n = true := by
  unfold am_ci at h ⊢
  simp only [Bool.and_eq_true, decide_eq_true_eq] at h ⊢
  exact ⟨⟨am_cbm am_sel_in h.1.1, am_sel_in _ h.1.2⟩, h.2⟩
theorem am_fom (is : List Nat) {idx a k : Nat} (h : am_fo (am_sel T is) cl own idx a k = true) : am_fo T cl own idx a k = true := by
  cases hq : cl[a]? with
  | none => simp [am_fo, hq] at h
  | some q =>
    simp only [am_fo, hq, Bool.and_eq_true, decide_eq_true_eq] at h ⊢
    exact ⟨h.1, am_sel_in _ h.2⟩
theorem am_uclm (is : List Nat) {ws : List Cond} (h : (ws.all fun w => decide (w ∈ am_sel T is) && goodWord w) = true) : ∀ w ∈ ws, w ∈ am_B T := fun w hw => by
  have h1 := List.all_eq_true.mp h w hw
  rw [Bool.and_eq_true] at h1
  exact am_B_in (am_sel_in _ (of_decide_eq_true h1.1)) h1.2
theorem am_mbm (is : List Nat) {idx : Nat} {y : MethodName} (h : am_mb (am_sel T is) own idx y cc = true) : am_mb T own idx y cc = true := by
  unfold am_mb at h ⊢
  simp only [Bool.and_eq_true, decide_eq_true_eq] at h ⊢
  exact ⟨⟨⟨am_sel_in _ h.1.1.1, am_sel_in _ h.1.1.2⟩, am_sel_in _ h.1.2⟩, am_sel_in _ h.2⟩
theorem am_obm (is : List Nat) {idx : Nat} (h : am_ob0 (am_sel T is) own idx = true) : am_ob0 T own idx = true := by
  unfold am_ob0 at h ⊢
  simp only [Bool.and_eq_true, decide_eq_true_eq] at h ⊢
  exact ⟨⟨am_sel_in _ h.1.1, am_sel_in _ h.1.2⟩, am_sel_in _ h.2⟩
theorem am_nbm (is : List Nat) {idx ci : Nat} {fs : List Value} (h : am_nb (am_sel T is) cl own idx ci fs = true) : am_nb T cl own idx ci fs = true := by
  cases hq : cl[ci]? with
  | none => simp [am_nb, hq] at h
  | some q =>
    simp only [am_nb, hq] at h ⊢
    rw [Bool.and_eq_true, Bool.and_eq_true, Bool.and_eq_true, Bool.and_eq_true] at h ⊢
    exact ⟨⟨⟨⟨am_dm am_sel_in h.1.1.1.1, am_dm am_sel_in h.1.1.1.2⟩, am_dm am_sel_in h.1.1.2⟩, h.1.2⟩, h.2⟩
end AMSUB
