/-! ===== words of the table by their places: a check over a few of them serves the whole table ===== -/
def am_sel (T : List Cond) (is : List Nat) : List Cond := is.filterMap (fun i => T[i]?)
theorem am_sel_in {T : List Cond} {is : List Nat} : ∀ c ∈ am_sel T is, c ∈ T := by
  intro c h
  obtain ⟨i, -, hi⟩ := List.mem_filterMap.mp h
  exact List.mem_of_getElem? hi
section AMSUB
variable {T T' : List Cond} {cl : List vw_C} {own host : String} {cc : ByteArray} {tab : List am_T} {is : List Nat}
theorem am_mm {c : Cond} (is : List Nat) (h : c ∈ am_sel T is) : c ∈ T := am_sel_in c h
theorem am_dm (hs : ∀ c ∈ T, c ∈ T') {c : Cond} (h : decide (c ∈ T) = true) : decide (c ∈ T') = true := decide_eq_true (hs c (of_decide_eq_true h))
theorem am_andm {x y z : Bool} (f : x = true → z = true) (h : (x && y) = true) : (z && y) = true := by
  rw [Bool.and_eq_true] at h ⊢
  exact ⟨f h.1, h.2⟩
theorem am_flm (hs : ∀ c ∈ T, c ∈ T') {idx a k : Nat} (h : am_fl T cl own host idx a k = true) : am_fl T' cl own host idx a k = true := by
  cases hq : cl[a]? with
  | none => simp [am_fl, hq] at h
  | some q =>
    simp only [am_fl, hq, Bool.and_eq_true, Bool.or_eq_true, decide_eq_true_eq] at h ⊢
    exact ⟨h.1, h.2.imp (hs _) (hs _)⟩
theorem am_xbm (hs : ∀ c ∈ T, c ∈ T') {i : Instr} {pc a k d : Nat} {cst : Int32} (h : am_xb T cl own host i pc a k d cst = true) : am_xb T' cl own host i pc a k d cst = true := by
  cases i <;> first | exact h | exact am_flm hs h | exact am_dm hs h | exact am_andm (am_flm hs) h
theorem am_okm (is : List Nat) (h : am_ok (am_sel T is) cl own host cc tab) : am_ok T cl own host cc tab := fun e he => by
  have h1 := h e he
  simp only [am_okb, Bool.and_eq_true] at h1 ⊢
  exact ⟨h1.1, am_xbm am_sel_in h1.2⟩
theorem am_cbm (hs : ∀ c ∈ T, c ∈ T') {idx n : Nat} {y : MethodName} (h : am_cb T own host idx y n = true) : am_cb T' own host idx y n = true := by
  unfold am_cb at h ⊢
  simp only [Bool.and_eq_true, Bool.or_eq_true, decide_eq_true_eq] at h ⊢
  exact ⟨⟨⟨⟨h.1.1.1.1.imp (hs _) (hs _), hs _ h.1.1.1.2⟩, h.1.1.2⟩, h.1.2⟩, h.2⟩
theorem am_cvm (is : List Nat) {idx n : Nat} {y : MethodName} (h : am_cv (am_sel T is) own host idx y n = true) : am_cv T own host idx y n = true := by
  unfold am_cv at h ⊢
  simp only [Bool.and_eq_true, decide_eq_true_eq] at h ⊢
  exact ⟨⟨am_cbm am_sel_in h.1.1, am_sel_in _ h.1.2⟩, am_sel_in _ h.2⟩
theorem am_csm (is : List Nat) {idx n : Nat} {y : MethodName} (h : am_cs (am_sel T is) own host idx y n = true) : am_cs T own host idx y n = true := by
  unfold am_cs at h ⊢
  simp only [Bool.and_eq_true, decide_eq_true_eq] at h ⊢
  exact ⟨am_cbm am_sel_in h.1, am_sel_in _ h.2⟩
theorem am_cim (is : List Nat) {idx n : Nat} {y : MethodName} (h : am_ci (am_sel T is) own host idx y n = true) : am_ci T own host idx y n = true := by
  unfold am_ci at h ⊢
  simp only [Bool.and_eq_true, decide_eq_true_eq] at h ⊢
  exact ⟨⟨am_cbm am_sel_in h.1.1, am_sel_in _ h.1.2⟩, h.2⟩
theorem am_fom (is : List Nat) {idx a k : Nat} (h : am_fo (am_sel T is) cl own idx a k = true) : am_fo T cl own idx a k = true := by
  cases hq : cl[a]? with
  | none => simp [am_fo, hq] at h
  | some q =>
    simp only [am_fo, hq, Bool.and_eq_true, decide_eq_true_eq] at h ⊢
    exact ⟨h.1, am_sel_in _ h.2⟩
theorem am_uclm (is : List Nat) {ws : List Cond} (h : (ws.all fun w => decide (w ∈ am_sel T is) && goodWord w) = true) : ∀ w ∈ ws, w ∈ am_B T := fun w hw => by
  have h1 := List.all_eq_true.mp h w hw
  rw [Bool.and_eq_true] at h1
  exact am_B_in (am_sel_in _ (of_decide_eq_true h1.1)) h1.2
theorem am_mbm (is : List Nat) {idx : Nat} {y : MethodName} (h : am_mb (am_sel T is) own idx y cc = true) : am_mb T own idx y cc = true := by
  unfold am_mb at h ⊢
  simp only [Bool.and_eq_true, decide_eq_true_eq] at h ⊢
  exact ⟨⟨⟨am_sel_in _ h.1.1.1, am_sel_in _ h.1.1.2⟩, am_sel_in _ h.1.2⟩, am_sel_in _ h.2⟩
theorem am_obm (is : List Nat) {idx : Nat} (h : am_ob0 (am_sel T is) own idx = true) : am_ob0 T own idx = true := by
  unfold am_ob0 at h ⊢
  simp only [Bool.and_eq_true, decide_eq_true_eq] at h ⊢
  exact ⟨⟨am_sel_in _ h.1.1, am_sel_in _ h.1.2⟩, am_sel_in _ h.2⟩
theorem am_nbm (is : List Nat) {idx ci : Nat} {fs : List Value} (h : am_nb (am_sel T is) cl own idx ci fs = true) : am_nb T cl own idx ci fs = true := by
  cases hq : cl[ci]? with
  | none => simp [am_nb, hq] at h
  | some q =>
    simp only [am_nb, hq] at h ⊢
    rw [Bool.and_eq_true, Bool.and_eq_true, Bool.and_eq_true, Bool.and_eq_true] at h ⊢
    exact ⟨⟨⟨⟨am_dm am_sel_in h.1.1.1.1, am_dm am_sel_in h.1.1.1.2⟩, am_dm am_sel_in h.1.1.2⟩, h.1.2⟩, h.2⟩
end AMSUB
/-! a class's links, kinds and constants once, its methods' rows by numbers alone -/
theorem am_and2 {x y z u : Bool} (f : x = true → z = true) (g : y = true → u = true) (h : (x && y) = true) : (z && u) = true := by
  rw [Bool.and_eq_true] at h ⊢
  exact ⟨f h.1, g h.2⟩
def am_xb2 (FL PL : List (Nat × Nat × Nat)) (CL : List (Nat × Int32)) (i : Instr) (pc a k d : Nat) (cst : Int32) : Bool := match i with
  | .iconst n => Int32.ofInt n == cst
  | .bipush n => (Int8.ofInt n).toInt32 == cst
  | .sipush n => (Int16.ofInt n).toInt32 == cst
  | .ldc idx => decide ((idx, cst) ∈ CL)
  | .iinc _ n => Int32.ofInt n == cst
  | .goto off => decide ((pc : Int) + off = (a : Int))
  | .ifCond _ off => decide ((pc : Int) + off = (a : Int))
  | .if_icmp _ off => decide ((pc : Int) + off = (a : Int))
  | .getfield idx => decide ((idx, a, k) ∈ FL)
  | .putfield idx => decide ((idx, a, k) ∈ FL) && decide ((a, k, d) ∈ PL)
  | _ => true
def am_okb2 (FL PL : List (Nat × Nat × Nat)) (CL : List (Nat × Int32)) (cc : ByteArray) (e : am_T) : Bool :=
  decide (decode cc e.1 = .ok (e.2.1, am_len e.2.1)) && Nat.beq e.2.2.1 (e.1 + am_len e.2.1) && am_xb2 FL PL CL e.2.1 e.1 e.2.2.2.1 e.2.2.2.2.1 e.2.2.2.2.2.1 e.2.2.2.2.2.2
section AMSUB2
variable {T : List Cond} {cl : List vw_C} {own host : String} {cc : ByteArray} {tab : List am_T} {FL PL : List (Nat × Nat × Nat)} {CL : List (Nat × Int32)}
theorem am_xbw (hF : ∀ x ∈ FL, am_fl T cl own host x.1 x.2.1 x.2.2 = true) (hP : ∀ x ∈ PL, am_kd cl own x.1 x.2.1 x.2.2 = true) (hC : ∀ x ∈ CL, Cond.constant own x.1 x.2 ∈ T) {i : Instr} {pc a k d : Nat} {cst : Int32} (h : am_xb2 FL PL CL i pc a k d cst = true) : am_xb T cl own host i pc a k d cst = true := by
  have gF : ∀ idx : Nat, decide ((idx, a, k) ∈ FL) = true → am_fl T cl own host idx a k = true := fun idx q => hF (idx, a, k) (of_decide_eq_true q)
  have gP : decide ((a, k, d) ∈ PL) = true → am_kd cl own a k d = true := fun q => hP (a, k, d) (of_decide_eq_true q)
  have gC : ∀ idx : Nat, decide ((idx, cst) ∈ CL) = true → decide (Cond.constant own idx cst ∈ T) = true := fun idx q => decide_eq_true (hC (idx, cst) (of_decide_eq_true q))
  cases i <;> first | exact gF _ h | exact gC _ h | exact am_and2 (gF _) gP h | exact h
theorem am_okw (hF : ∀ x ∈ FL, am_fl T cl own host x.1 x.2.1 x.2.2 = true) (hP : ∀ x ∈ PL, am_kd cl own x.1 x.2.1 x.2.2 = true) (hC : ∀ x ∈ CL, Cond.constant own x.1 x.2 ∈ T) (h : tab.all (am_okb2 FL PL CL cc) = true) : am_ok T cl own host cc tab := fun e he => by
  have h1 := List.all_eq_true.mp h e he
  simp only [am_okb, am_okb2, Bool.and_eq_true] at h1 ⊢
  exact ⟨h1.1, am_xbw hF hP hC h1.2⟩
theorem am_flw (FQ : List (Nat × Nat × Nat × Nat)) (h : (FQ.all fun p => am_fl (am_sel T [p.1]) cl own host p.2.1 p.2.2.1 p.2.2.2) = true) : ∀ x ∈ FQ.map Prod.snd, am_fl T cl own host x.1 x.2.1 x.2.2 = true := by
  intro x hx
  obtain ⟨p, hp, rfl⟩ := List.mem_map.mp hx
  exact am_flm am_sel_in (List.all_eq_true.mp h p hp)
theorem am_kdw (h : (PL.all fun x => am_kd cl own x.1 x.2.1 x.2.2) = true) : ∀ x ∈ PL, am_kd cl own x.1 x.2.1 x.2.2 = true := fun x hx => List.all_eq_true.mp h x hx
theorem am_cnw (CQ : List (Nat × Nat × Int32)) (h : (CQ.all fun p => decide (Cond.constant own p.2.1 p.2.2 ∈ am_sel T [p.1])) = true) : ∀ x ∈ CQ.map Prod.snd, Cond.constant own x.1 x.2 ∈ T := by
  intro x hx
  obtain ⟨p, hp, rfl⟩ := List.mem_map.mp hx
  exact am_sel_in _ (of_decide_eq_true (List.all_eq_true.mp h p hp))
theorem am_ucl2 (is : List Nat) {ws : List Cond} (h : (decide (ws = am_sel T is) && ws.all goodWord) = true) : ∀ w ∈ ws, w ∈ am_B T := by
  rw [Bool.and_eq_true, decide_eq_true_eq] at h
  intro w hw
  exact am_B_in (am_sel_in _ (by rw [← h.1]; exact hw)) (List.all_eq_true.mp h.2 w hw)
def am_cb0 (T : List Cond) (own host : String) (idx : Nat) (y : MethodName) : Bool :=
  (decide (Cond.methodLink own idx y ∈ T) || decide (Cond.methodLinkNest own idx y host ∈ T)) && decide (Cond.initialized y.cls ∈ T) && decide (y.cls ≠ "java/lang/invoke/MethodHandle") && decide (y.cls ≠ "java/lang/invoke/VarHandle")
theorem am_cbp {is : List Nat} {idx n : Nat} {y : MethodName} (hp : (parseMethodDescriptor y.desc).map (fun d => d.parameters.length) = some n) (h : am_cb0 (am_sel T is) own host idx y = true) : am_cb T own host idx y n = true := by
  refine am_cbm (T := am_sel T is) am_sel_in ?_
  unfold am_cb0 at h
  unfold am_cb
  rw [h, Bool.true_and]
  exact decide_eq_true hp
theorem am_cvp (is : List Nat) {idx n : Nat} {y : MethodName} (hp : (parseMethodDescriptor y.desc).map (fun d => d.parameters.length) = some n) (h : (am_cb0 (am_sel T is) own host idx y && decide (Cond.instanceMethod y ∈ am_sel T is) && decide (Cond.selects y.cls y y ∈ am_sel T is)) = true) : am_cv T own host idx y n = true := by
  unfold am_cv
  simp only [Bool.and_eq_true, decide_eq_true_eq] at h ⊢
  exact ⟨⟨am_cbp hp h.1.1, am_sel_in _ h.1.2⟩, am_sel_in _ h.2⟩
theorem am_csp (is : List Nat) {idx n : Nat} {y : MethodName} (hp : (parseMethodDescriptor y.desc).map (fun d => d.parameters.length) = some n) (h : (am_cb0 (am_sel T is) own host idx y && decide (Cond.static y ∈ am_sel T is)) = true) : am_cs T own host idx y n = true := by
  unfold am_cs
  simp only [Bool.and_eq_true, decide_eq_true_eq] at h ⊢
  exact ⟨am_cbp hp h.1, am_sel_in _ h.2⟩
theorem am_cip (is : List Nat) {idx n : Nat} {y : MethodName} (hp : (parseMethodDescriptor y.desc).map (fun d => d.parameters.length) = some n) (h : (am_cb0 (am_sel T is) own host idx y && decide (Cond.instanceMethod y ∈ am_sel T is) && decide (y.name = "<init>")) = true) : am_ci T own host idx y n = true := by
  unfold am_ci
  simp only [Bool.and_eq_true, decide_eq_true_eq] at h ⊢
  exact ⟨⟨am_cbp hp h.1.1, am_sel_in _ h.1.2⟩, h.2⟩
end AMSUB2
