/-! ===== calls, makings, and the rest ===== -/
/-- a call's words -/
def am_cb (Tt : List Cond) (own host : String) (idx : Nat) (y : MethodName) (n : Nat) : Bool :=
  (decide (Cond.methodLink own idx y ∈ Tt) || decide (Cond.methodLinkNest own idx y host ∈ Tt)) && decide (Cond.initialized y.cls ∈ Tt) && decide (y.cls ≠ "java/lang/invoke/MethodHandle") && decide (y.cls ≠ "java/lang/invoke/VarHandle") && decide ((parseMethodDescriptor y.desc).map (fun d => d.parameters.length) = some n)
def am_cv (Tt : List Cond) (own host : String) (idx : Nat) (y : MethodName) (n : Nat) : Bool := am_cb Tt own host idx y n && decide (Cond.instanceMethod y ∈ Tt) && decide (Cond.selects y.cls y y ∈ Tt)
def am_cs (Tt : List Cond) (own host : String) (idx : Nat) (y : MethodName) (n : Nat) : Bool := am_cb Tt own host idx y n && decide (Cond.static y ∈ Tt)
def am_ci (Tt : List Cond) (own host : String) (idx : Nat) (y : MethodName) (n : Nat) : Bool := am_cb Tt own host idx y n && decide (Cond.instanceMethod y ∈ Tt) && decide (y.name = "<init>")
section AMD
variable {Tt : List Cond} {cl : List vw_C} {l : Launch} {D : va_G} {tc : Nat → ClassId} {b : Nat} {own host : String} {cc : ByteArray} {nL : Nat} {ret : Option FieldType} {ini : am_I} {R : Room} {mc ms : Nat} {post : Option Value → am_W → Prop} {QQ : List Frame → Array Value → State → State → Prop} {cells slots pc : Nat} {L : am_O} {st : List Value} {w : am_W} {tab : List am_T}
section AMF
variable {p : Program} {e : Env} {s : State} {m : MethodId} {args : Array Value} {below : List Frame} {meth : Method} {c : Code} {H : Heap} {locs : List Loc} {Q : State → Prop} {ls : Array Slot}
theorem am_good {y : MethodName} {cc' : ByteArray} {nL' : Nat} {ret' : Option FieldType} (hco : Cond.code y cc' nL' ret' ∈ Tt) : GoodIn (am_B Tt) (am_ws Tt y cc' nL' ret') := by
  intro w hw
  rcases List.mem_cons.mp hw with rfl | hw
  · exact ⟨am_B_in hco rfl, good_of_word rfl⟩
  · exact am_B_good Tt w hw
theorem am_blind {As : List Value} : FrameBlind (va_Pc As (fun U => (am_H cl D tc b w U.heap ∧ am_K Tt cl D tc U) ∧ b ≤ U.heap.size ∧ am_Z b U)) := fun a U g mk q => ⟨q.1, ⟨q.2.1.1, am_K.same (s := U) (U := U.calling g mk a) rfl q.2.1.2⟩, q.2.2.1, q.2.2.2.next (s := U) (U := U.calling g mk a) (Vm.Alike.refl U.vm) (locs := []) va_S.rf⟩
theorem am_pre (C : am_C Tt cl D tc b own cc nL ret ini p s m args meth c) (hH : am_H cl D tc b w H) (hS : va_S (fun q => b ≤ q) s.heap H locs) {As : List Value} : ∀ U : State, U.heap = H → s.WarmedH U.vm → va_Pc (As.map (am_v b)) (fun U => (am_H cl D tc b w U.heap ∧ am_K Tt cl D tc U) ∧ b ≤ U.heap.size ∧ am_Z b U) (As.map (am_v b)).toArray U := by
  intro U hU hW
  obtain ⟨hexec, hb, hml, hr, hin, hlk, hown, hts, hK, hbs, hZ, -⟩ := C
  exact ⟨rfl, ⟨by rw [hU]; exact hH, hK.warm hW⟩, by rw [hU, hH.1]; omega, hZ.next hW.alike (by rw [hU]; exact hS)⟩
/-- behind a call -/
theorem am_back {mc' ms' : Nat} {post' : Option Value → am_W → Prop} {r : List Value} {a : Array Value} {g : JFrame} (hg : g = F0 m pc ls st) (hr : va_Run p l e R s m args below meth c H locs cells slots mc' ms' g r (am_Q cl D tc b post' a) (fun q => b ≤ q)) (hS : va_S (fun q => b ≤ q) s.heap H locs)
    (kk : ∀ (v : Option Value) (w' : am_W) (H1 : Heap) (locs1 : List Loc), post' v w' → am_H cl D tc b w' H1 → va_S (fun q => b ≤ q) s.heap H1 locs1 → W p l e R s m args below meth c H1 locs1 (cells + mc') (slots + ms') Q (F0 m (pc + 3) ls ((v.map (am_v b)).toList ++ r))) :
    W p l e R s m args below meth c H locs cells slots Q (F0 m pc ls st) := by
  subst hg
  intro T hT X
  obtain ⟨v, st₀, t, T', Lo, h0, X', hLo, e1, e2, ⟨v', w', hv, hp, hH', hz, hk⟩, stp⟩ := hr T hT X
  cases hv
  rw [h0] at hz hk
  obtain ⟨t2, a1, b1⟩ := kk v' w' T'.heap (locs ++ Lo) hp (by rw [e1]; exact hH')
    ⟨Nat.le_trans hS.1 (by rw [e1]; exact hz), fun q h1 h2 => by rw [e1, hk q (Nat.lt_of_lt_of_le h1 hS.1) h2]; exact hS.2.1 q h1 h2, fun q hq => by
      rcases List.mem_append.mp hq with h | h
      · exact hS.2.2 q h
      · exact hLo q h⟩ T' rfl X'
  exact ⟨t2, stp t2 a1, b1⟩
end AMF
theorem am_ans_eq (v : Option Value) (r : List Value) : (v.map (am_v b)).toList ++ r.map (am_v b) = (am_ans v r).map (am_v b) := by cases v <;> rfl
theorem am_cat_sum (r : List Value) : ((r.map (am_v b)).map fun v => v.category).sum = (r.map fun v => v.category).sum := by
  rw [List.map_map]
  congr 1
  apply List.map_congr_left
  intro v _
  exact am_v_cat b v
theorem am_cb_inv {idx n : Nat} {y : MethodName} (h : am_cb Tt own host idx y n = true) : (Cond.methodLink own idx y ∈ Tt ∨ Cond.methodLinkNest own idx y host ∈ Tt) ∧ Cond.initialized y.cls ∈ Tt ∧ y.cls ≠ "java/lang/invoke/MethodHandle" ∧ y.cls ≠ "java/lang/invoke/VarHandle" ∧ (parseMethodDescriptor y.desc).map (fun d => d.parameters.length) = some n := by
  simp only [am_cb, Bool.and_eq_true, Bool.or_eq_true, decide_eq_true_eq] at h
  exact ⟨h.1.1.1.1, h.1.1.1.2, h.1.1.2, h.1.2, h.2⟩
/-- a call of an object's method -/
theorem am_cV (hM : am_ok Tt cl own host cc tab) {idx nxt a k d0 : Nat} {cst : Int32} (hf : am_find tab pc = some (pc, .invokevirtual idx, nxt, a, k, d0, cst)) {y : MethodName} {cc' : ByteArray} {nL' n d mc' ms' ci o : Nat} {ret' : Option FieldType} {As r fs : List Value} {post' : Option Value → am_W → Prop} (hm : am_M Tt cl l D tc b y cc' nL' ret' d mc' ms' (.ref o :: As) w post')
    (hv : am_cv Tt own host idx y n = true) (hco : Cond.code y cc' nL' ret' ∈ Tt) (hp : am_pop n st [] = some (As, .ref o :: r)) (ho : am_nth w o = some (.inr (ci, fs))) (hci : (cl[ci]?).map (fun q => q.1) = some y.cls) (hro : Nat.ble (d + 1) R.frames = true ∧ Nat.ble (8 + (nL' + 11) + 30 * d) R.locals = true ∧ Nat.ble (r.map fun v => v.category).sum 8 = true) (hcs : cells + mc' ≤ R.cells ∧ slots + ms' ≤ R.slots)
    (kk : ∀ (v : Option Value) (w' : am_W), post' v w' → am_RQ Tt cl l D tc b own cc nL ret ini R QQ (cells + mc') (slots + ms') nxt L (am_ans v r) w') : am_RQ Tt cl l D tc b own cc nL ret ini R QQ cells slots pc L st w := by
  intro p e s m args below meth c H locs ls C hH hS hL
  obtain ⟨hd, hn, -⟩ := am_ok_at hM hf
  obtain ⟨hexec, hb, hml, hrt, hin, hlk, hown, hts, hK, hbs⟩ := id C
  simp only [am_len] at hd hn
  subst hn
  obtain ⟨hst, hlen⟩ := am_pop_inv hp
  have hst : st = As.reverse ++ .ref o :: r := by simpa using hst.symm
  simp only [am_cv, Bool.and_eq_true, decide_eq_true_eq] at hv
  obtain ⟨⟨hcb, him⟩, hse⟩ := hv
  obtain ⟨hlk2, hini, hy1, hy2, hds⟩ := am_cb_inv hcb
  have ho' : w[o]? = some (.inr (ci, fs)) := by rw [← am_nth_eq]; exact ho
  have he := am_w_some (tc := tc) (b := b) ho'
  obtain ⟨q, hq, hqc⟩ := Option.map_eq_some_iff.mp hci
  have hrecv := va_recv hK.1 hH.2 hq he
  rw [hqc] at hrecv
  have hG := am_good (Tt := Tt) hco
  have hsz : ls.size = nL := hL.1.1
  have hstk : (F0 m pc ls (st.map (am_v b))).stack = (As.map (am_v b)).reverse ++ .ref (b + o) :: r.map (am_v b) := by
    show st.map (am_v b) = _
    rw [hst, List.map_append, List.map_reverse, List.map_cons]; rfl
  have hW : 2 * (F0 m pc ls (st.map (am_v b))).monitorRoom + ((r.map (am_v b)).map fun v => v.category).sum ≤ 8 := by
    rw [am_cat_sum]; exact lv_room (Nat.le_of_ble_eq_true hro.2.2)
  have hpv : PreV s H y.cls (b + o) (va_Pc ((Value.ref o :: As).map (am_v b)) (fun U => (am_H cl D tc b w U.heap ∧ am_K Tt cl D tc U) ∧ b ≤ U.heap.size ∧ am_Z b U)) (As.map (am_v b)) := ⟨am_blind, hrecv, am_pre C hH hS (As := .ref o :: As)⟩
  have hn' : (As.map (am_v b)).length = n := by rw [List.length_map, hlen]; simp
  have hR : (am_rm d mc' ms').frames + 1 ≤ R.frames ∧ 8 + (nL' + 11) + (am_rm d mc' ms').locals ≤ R.locals := ⟨Nat.le_of_ble_eq_true hro.1, Nat.le_of_ble_eq_true hro.2.1⟩
  have fin : va_Run p l e R s m args below meth c H locs cells slots mc' ms' (F0 m pc ls (st.map (am_v b))) (r.map (am_v b)) (am_Q cl D tc b post' (Value.ref (b + o) :: As.map (am_v b)).toArray) (fun q => b ≤ q) := by
    rcases hlk2 with h | h
    · exact va_runV (C := y.cls) (n := n) ⟨hexec, hb, hml, hown, hts⟩ hm ⟨callB_of n hts hG rfl rfl rfl (hts _ (am_B_in hini rfl)) (hts _ (am_B_in h rfl)) ⟨hy1, hy2, hds⟩ hR, hts _ (am_B_in him rfl), hts _ (am_B_in hse rfl)⟩ hpv rfl hn' hsz hstk hW hd hcs
    · exact va_runVN (C := y.cls) (n := n) ⟨hexec, hb, hml, hown, hts⟩ hm ⟨va_cnB n hts hG rfl rfl rfl (hK.2 _ h rfl) (hts _ (am_B_in hini rfl)) ⟨hy1, hy2, hds⟩ hR, hts _ (am_B_in him rfl), hts _ (am_B_in hse rfl)⟩ hpv rfl hn' hsz hstk hW hd hcs
  refine am_back rfl fin hS fun v w' H1 locs1 hpo hH1 hS1 => ?_
  rw [am_ans_eq]
  exact kk v w' hpo p e s m args below meth c H1 locs1 ls C hH1 hS1 hL
/-- a call of a static method -/
theorem am_cS (hM : am_ok Tt cl own host cc tab) {idx nxt a k d0 : Nat} {cst : Int32} (hf : am_find tab pc = some (pc, .invokestatic idx, nxt, a, k, d0, cst)) {y : MethodName} {cc' : ByteArray} {nL' n d mc' ms' : Nat} {ret' : Option FieldType} {As r : List Value} {post' : Option Value → am_W → Prop} (hm : am_M Tt cl l D tc b y cc' nL' ret' d mc' ms' As w post')
    (hv : am_cs Tt own host idx y n = true) (hco : Cond.code y cc' nL' ret' ∈ Tt) (hp : am_pop n st [] = some (As, r)) (hro : Nat.ble (d + 1) R.frames = true ∧ Nat.ble (8 + (nL' + 11) + 30 * d) R.locals = true ∧ Nat.ble (r.map fun v => v.category).sum 8 = true) (hcs : cells + mc' ≤ R.cells ∧ slots + ms' ≤ R.slots)
    (kk : ∀ (v : Option Value) (w' : am_W), post' v w' → am_RQ Tt cl l D tc b own cc nL ret ini R QQ (cells + mc') (slots + ms') nxt L (am_ans v r) w') : am_RQ Tt cl l D tc b own cc nL ret ini R QQ cells slots pc L st w := by
  intro p e s m args below meth c H locs ls C hH hS hL
  obtain ⟨hd, hn, -⟩ := am_ok_at hM hf
  obtain ⟨hexec, hb, hml, hrt, hin, hlk, hown, hts, hK, hbs⟩ := id C
  simp only [am_len] at hd hn
  subst hn
  obtain ⟨hst, hlen⟩ := am_pop_inv hp
  have hst : st = As.reverse ++ r := by simpa using hst.symm
  simp only [am_cs, Bool.and_eq_true, decide_eq_true_eq] at hv
  obtain ⟨hcb, him⟩ := hv
  obtain ⟨hlk2, hini, hy1, hy2, hds⟩ := am_cb_inv hcb
  have hG := am_good (Tt := Tt) hco
  have hsz : ls.size = nL := hL.1.1
  have hstk : (F0 m pc ls (st.map (am_v b))).stack = (As.map (am_v b)).reverse ++ r.map (am_v b) := by
    show st.map (am_v b) = _
    rw [hst, List.map_append, List.map_reverse]
  have hW : 2 * (F0 m pc ls (st.map (am_v b))).monitorRoom + ((r.map (am_v b)).map fun v => v.category).sum ≤ 8 := by
    rw [am_cat_sum]; exact lv_room (Nat.le_of_ble_eq_true hro.2.2)
  have hpv : PreS s H (va_Pc (As.map (am_v b)) (fun U => (am_H cl D tc b w U.heap ∧ am_K Tt cl D tc U) ∧ b ≤ U.heap.size ∧ am_Z b U)) (As.map (am_v b)) := ⟨am_blind, am_pre C hH hS (As := As)⟩
  have hn' : (As.map (am_v b)).length = n := by rw [List.length_map, hlen]; simp
  have hR : (am_rm d mc' ms').frames + 1 ≤ R.frames ∧ 8 + (nL' + 11) + (am_rm d mc' ms').locals ≤ R.locals := ⟨Nat.le_of_ble_eq_true hro.1, Nat.le_of_ble_eq_true hro.2.1⟩
  have fin : va_Run p l e R s m args below meth c H locs cells slots mc' ms' (F0 m pc ls (st.map (am_v b))) (r.map (am_v b)) (am_Q cl D tc b post' (As.map (am_v b)).toArray) (fun q => b ≤ q) := by
    rcases hlk2 with h | h
    · exact va_runS (n := n) ⟨hexec, hb, hml, hown, hts⟩ hm ⟨callB_of n hts hG rfl rfl rfl (hts _ (am_B_in hini rfl)) (hts _ (am_B_in h rfl)) ⟨hy1, hy2, hds⟩ hR, hts _ (am_B_in him rfl)⟩ hpv rfl hn' hsz hstk hW hd hcs
    · exact va_runSN (n := n) ⟨hexec, hb, hml, hown, hts⟩ hm ⟨va_cnB n hts hG rfl rfl rfl (hK.2 _ h rfl) (hts _ (am_B_in hini rfl)) ⟨hy1, hy2, hds⟩ hR, hts _ (am_B_in him rfl), trivial⟩ hpv rfl hn' hsz hstk hW hd hcs
  refine am_back rfl fin hS fun v w' H1 locs1 hpo hH1 hS1 => ?_
  rw [am_ans_eq]
  exact kk v w' hpo p e s m args below meth c H1 locs1 ls C hH1 hS1 hL
/-- a call of a constructor -/
theorem am_cI (hM : am_ok Tt cl own host cc tab) {idx nxt a k d0 : Nat} {cst : Int32} (hf : am_find tab pc = some (pc, .invokespecial idx, nxt, a, k, d0, cst)) {y : MethodName} {cc' : ByteArray} {nL' n d mc' ms' o : Nat} {As r : List Value} {post' : Option Value → am_W → Prop} (hm : am_M Tt cl l D tc b y cc' nL' none d mc' ms' (.ref o :: As) w post')
    (hv : am_ci Tt own host idx y n = true) (hco : Cond.code y cc' nL' none ∈ Tt) (hp : am_pop n st [] = some (As, .ref o :: r)) (hro : Nat.ble (d + 1) R.frames = true ∧ Nat.ble (8 + (nL' + 11) + 30 * d) R.locals = true ∧ Nat.ble (r.map fun v => v.category).sum 8 = true) (hcs : cells + mc' ≤ R.cells ∧ slots + ms' ≤ R.slots)
    (kk : ∀ (v : Option Value) (w' : am_W), post' v w' → am_RQ Tt cl l D tc b own cc nL ret ini R QQ (cells + mc') (slots + ms') nxt L (am_ans v r) w') : am_RQ Tt cl l D tc b own cc nL ret ini R QQ cells slots pc L st w := by
  intro p e s m args below meth c H locs ls C hH hS hL
  obtain ⟨hd, hn, -⟩ := am_ok_at hM hf
  obtain ⟨hexec, hb, hml, hrt, hin, hlk, hown, hts, hK, hbs⟩ := id C
  simp only [am_len] at hd hn
  subst hn
  obtain ⟨hst, hlen⟩ := am_pop_inv hp
  have hst : st = As.reverse ++ .ref o :: r := by simpa using hst.symm
  simp only [am_ci, Bool.and_eq_true, decide_eq_true_eq] at hv
  obtain ⟨⟨hcb, him⟩, hnm⟩ := hv
  obtain ⟨hlk2, hini, hy1, hy2, hds⟩ := am_cb_inv hcb
  have hG := am_good (Tt := Tt) hco
  have hsz : ls.size = nL := hL.1.1
  have hstk : (F0 m pc ls (st.map (am_v b))).stack = (As.map (am_v b)).reverse ++ .ref (b + o) :: r.map (am_v b) := by
    show st.map (am_v b) = _
    rw [hst, List.map_append, List.map_reverse, List.map_cons]; rfl
  have hW : 2 * (F0 m pc ls (st.map (am_v b))).monitorRoom + ((r.map (am_v b)).map fun v => v.category).sum ≤ 8 := by
    rw [am_cat_sum]; exact lv_room (Nat.le_of_ble_eq_true hro.2.2)
  have hpv : PreS s H (va_Pc ((Value.ref o :: As).map (am_v b)) (fun U => (am_H cl D tc b w U.heap ∧ am_K Tt cl D tc U) ∧ b ≤ U.heap.size ∧ am_Z b U)) (.ref (b + o) :: As.map (am_v b)) := ⟨am_blind, am_pre C hH hS (As := .ref o :: As)⟩
  have hn' : (As.map (am_v b)).length = n := by rw [List.length_map, hlen]; simp
  have hR : (am_rm d mc' ms').frames + 1 ≤ R.frames ∧ 8 + (nL' + 11) + (am_rm d mc' ms').locals ≤ R.locals := ⟨Nat.le_of_ble_eq_true hro.1, Nat.le_of_ble_eq_true hro.2.1⟩
  have fin : va_Run p l e R s m args below meth c H locs cells slots mc' ms' (F0 m pc ls (st.map (am_v b))) (r.map (am_v b)) (am_Q cl D tc b post' (Value.ref (b + o) :: As.map (am_v b)).toArray) (fun q => b ≤ q) := by
    rcases hlk2 with h | h
    · exact va_runI (n := n) ⟨hexec, hb, hml, hown, hts⟩ hm ⟨callB_of n hts hG rfl rfl rfl (hts _ (am_B_in hini rfl)) (hts _ (am_B_in h rfl)) ⟨hy1, hy2, hds⟩ hR, hnm, hts _ (am_B_in him rfl)⟩ hpv rfl hn' hsz hstk hW hd hcs
    · exact va_runIN (n := n) ⟨hexec, hb, hml, hown, hts⟩ hm ⟨va_cnB n hts hG rfl rfl rfl (hK.2 _ h rfl) (hts _ (am_B_in hini rfl)) ⟨hy1, hy2, hds⟩ hR, hnm, hts _ (am_B_in him rfl)⟩ hpv rfl hn' hsz hstk hW hd hcs
  refine am_back rfl fin hS fun v w' H1 locs1 hpo hH1 hS1 => ?_
  rw [am_ans_eq]
  exact kk v w' hpo p e s m args below meth c H1 locs1 ls C hH1 hS1 hL
end AMD
