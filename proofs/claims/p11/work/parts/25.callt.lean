section CTM
variable {Tt : List Cond} {cl : List vw_C} {l : Launch} {D : va_G} {tc : Nat → ClassId} {b : Nat} {own host : String} {cc : ByteArray} {nL : Nat} {ret : Option FieldType} {ini : am_I} {R : Room} {mc ms : Nat} {QQ : List Frame → Array Value → State → State → Prop} {cells slots pc : Nat} {L : am_O} {st : List Value} {w : am_W} {tab : List am_T}
set_option maxHeartbeats 1000000 in
/-- a call of an object's method that may throw what the caller's one handler takes -/
theorem am_cT (hM : am_ok Tt cl own host cc tab) {idx nxt a k d0 : Nat} {cst : Int32} (hf : am_find tab pc = some (pc, .invokevirtual idx, nxt, a, k, d0, cst)) {y : MethodName} {cc' : ByteArray} {nL' n d mc' ms' ci o : Nat} {ret' : Option FieldType} {As r fs : List Value} {post' : Option Value → am_W → Prop} {pt' : Nat → am_W → Prop} (hm : am_MT Tt cl l D tc b y cc' nL' ret' d mc' ms' (.ref o :: As) w post' pt')
    (hv : am_cv Tt own host idx y n = true) (hlkm : Cond.methodLink own idx y ∈ Tt) (hco : Cond.code y cc' nL' ret' ∈ Tt) (hp : am_pop n st [] = some (As, .ref o :: r)) (ho : am_nth w o = some (.inr (ci, fs))) (hci : (cl[ci]?).map (fun q => q.1) = some y.cls) (hro : Nat.ble (d + 1) R.frames = true ∧ Nat.ble (8 + (nL' + 11) + 30 * d) R.locals = true ∧ Nat.ble (r.map fun v => v.category).sum 8 = true) (hcs : cells + mc' ≤ R.cells ∧ slots + ms' ≤ R.slots)
    {x : ExceptionTableEntry} (hh : ini.2 = [(x.startPc, x.endPc, x.handlerPc, x.catchType)]) (hx : covers x pc = true) (h0 : x.catchType ≠ 0) {X : String} {T0 : u_T} {c6 : Nat} (hc6 : cl[c6]? = some (X, T0, 0)) (hlink : Cond.classLink own x.catchType X ∈ Tt) (hcast : Cond.castable X X ∈ Tt) (hpt : ∀ k w', pt' k w' → w'[k]? = some (.inr (c6, [])))
    (kr : ∀ (v : Option Value) (w' : am_W), post' v w' → am_RQ Tt cl l D tc b own cc nL ret ini R QQ (cells + mc') (slots + ms') nxt L (am_ans v r) w')
    (kt : ∀ (k : Nat) (w' : am_W), pt' k w' → am_RQ Tt cl l D tc b own cc nL ret ini R QQ (cells + mc') (slots + ms') x.handlerPc L [.ref k] w') : am_RQ Tt cl l D tc b own cc nL ret ini R QQ cells slots pc L st w := by
  intro p e s m args below meth c H locs ls C hH hS hL T hT X0
  obtain ⟨hd, hn, -⟩ := am_ok_at hM hf
  obtain ⟨hexec, hb, hml, hrt, hin, hlk, hown, hts, hK, hbs, hZ, hex⟩ := id C
  simp only [am_len] at hd hn
  subst hn
  obtain ⟨hst, hlen⟩ := am_pop_inv hp
  have hst : st = As.reverse ++ .ref o :: r := by simpa using hst.symm
  simp only [am_cv, Bool.and_eq_true, decide_eq_true_eq] at hv
  obtain ⟨⟨hcb, him⟩, hse⟩ := hv
  obtain ⟨-, hini, hy1, hy2, hds⟩ := am_cb_inv hcb
  have ho' : w[o]? = some (.inr (ci, fs)) := by rw [← am_nth_eq]; exact ho
  have he := am_w_some (tc := tc) (b := b) ho'
  obtain ⟨q, hq, hqc⟩ := Option.map_eq_some_iff.mp hci
  have hrecv := va_recv hK.1 hH.2 hq he
  rw [hqc] at hrecv
  have hG := am_good (Tt := Tt) hco
  have hsz : ls.size = nL := hL.1.1
  have htab : c.exceptionTable.toList = [x] := by
    rw [hh] at hex
    obtain ⟨z, hz, hzx⟩ : ∃ z, c.exceptionTable.toList = [z] ∧ (z.startPc, z.endPc, z.handlerPc, z.catchType) = (x.startPc, x.endPc, x.handlerPc, x.catchType) := by
      cases hl : c.exceptionTable.toList with
      | nil => rw [hl] at hex; cases hex
      | cons z t =>
        rw [hl] at hex
        simp only [List.map_cons, List.cons.injEq] at hex
        have := List.map_eq_nil_iff.mp hex.2
        exact ⟨z, by rw [this], hex.1⟩
    rw [hz]
    obtain ⟨z1, z2, z3, z4⟩ := z
    obtain ⟨x1, x2, x3, x4⟩ := x
    simp only [Prod.mk.injEq] at hzx
    obtain ⟨rfl, rfl, rfl, rfl⟩ := hzx
    rfl
  have hstk : (F0 m pc ls (st.map (am_v b))).stack = (As.map (am_v b)).reverse ++ .ref (b + o) :: r.map (am_v b) := by
    show st.map (am_v b) = _
    rw [hst, List.map_append, List.map_reverse, List.map_cons]; rfl
  obtain ⟨mk, methM, hnamed, hmethM, hstM, habM⟩ := Cond.instanceMethod_spec (hts _ (am_B_in him rfl))
  obtain ⟨methM', cM, hmethM', -, -, -, -, -, -, hsigM⟩ := Cond.code_spec hnamed (hts _ (am_B_in hco rfl))
  cases hmethM.symm.trans hmethM'
  obtain ⟨c2, r2, m2, q1, q2, q3, q4, kP, hkP, hkPi⟩ := Cond.selects_spec (hts _ (am_B_in hse rfl))
  obtain ⟨cellB, hcB, hoB, hclB⟩ := hrecv
  cases hclB.symm.trans q1
  cases (State.methodFound?_of_named hnamed ⟨hy1, hy2⟩).symm.trans q2
  cases hnamed.symm.trans q3
  have hselP : selectMethod e.platform s.vm cellB.cls mk = .method mk := by rw [Launch.admits_selectMethod X0.admits]; exact q4
  have hnl : (As.map (am_v b)).length = methM.sig.parameters.length := by
    rw [hsigM] at hds
    have := Option.some.inj hds
    rw [List.length_map, hlen]
    exact this.symm
  obtain ⟨vm₁, X₁, hstep₁⟩ := X0.invokevirtual hexec hown (hts _ (am_B_in hlkm rfl)) hnamed hmethM hstM hkP hkPi ⟨hy1, hy2⟩ (a := b + o) (cell := cellB) (by rw [hT]; exact hcB) (fun z h => by rw [h] at hoB; cases hoB) hselP hmethM habM hkP hkPi (g := F0 m pc ls (st.map (am_v b))) rfl (argsL := As.map (am_v b)) (rest := r.map (am_v b)) hnl hstk (by rw [hb]; exact hd)
  have hwords := pay_in hts hG
  have hnU : (T.setVm vm₁).methodNamed? y = some mk := X₁.named hnamed
  obtain ⟨methY, cY, hmY, hcY, -, hlY, -, -, -, -⟩ := Cond.code_spec hnU (hwords _ List.mem_cons_self (Value.ref (b + o) :: As.map (am_v b)).toArray (T.setVm vm₁) X₁.warmed)
  obtain ⟨kY, hkY, -⟩ := className_of_methodNamed hnU
  have hinitY : kY.init = .initialized := Cond.initialized_spec (findClass_of_methodNamed hnU) hkY (pay_in hts (am_B_good Tt) _ (am_B_in hini rfl) (Value.ref (b + o) :: As.map (am_v b)).toArray (T.setVm vm₁) X₁.warmed)
  have hWr : 2 * (F0 m pc ls (r.map (am_v b))).monitorRoom + ((F0 m pc ls (r.map (am_v b))).stack.map fun v => v.category).sum ≤ 8 := by
    show 2 * (F0 m pc ls (r.map (am_v b))).monitorRoom + ((r.map (am_v b)).map fun v => v.category).sum ≤ 8
    rw [am_cat_sum]; exact lv_room (Nat.le_of_ble_eq_true hro.2.2)
  have hdg : decode c.code (F0 m pc ls (r.map (am_v b))).pc = .ok (.invokevirtual idx, 3) := by rw [hb]; exact hd
  have h1 := Nat.le_of_ble_eq_true hro.1
  have h2 := Nat.le_of_ble_eq_true hro.2.1
  have happ : (headSpec (am_ws Tt y cc' nL' ret') (am_rm d mc' ms')).appliesLoose y e.platform ((T.setVm vm₁).calling (F0 m pc ls (r.map (am_v b))) mk (Value.ref (b + o) :: As.map (am_v b)).toArray) = true :=
    Spec.appliesLoose_calling (g := F0 m pc ls (r.map (am_v b))) X₁.here hdg hnU hkY hinitY
      (X₁.room_calling (g := F0 m pc ls (r.map (am_v b))) (R' := am_rm d mc' ms') (hsz.trans hml.symm) hmY hcY h1 (by rw [hlY]; show _ + 30 * d ≤ _; omega) hcs.1 hcs.2)
      (atoms_intro fun w hw => hwords w hw _ _ X₁.warmed)
  obtain ⟨mid, hmid⟩ := X₁.here.above
  have hfr : ((T.setVm vm₁).setTop (F0 m pc ls (r.map (am_v b)))).frames = (.java (F0 m pc ls (r.map (am_v b))) :: mid) ++ below := by rw [State.frames_setTop' _ X₁.here.top, hmid]; rfl
  have hpre : va_Pc ((Value.ref o :: As).map (am_v b)) (fun U => (am_H cl D tc b w U.heap ∧ am_K Tt cl D tc U) ∧ b ≤ U.heap.size ∧ am_Z b U) (Value.ref (b + o) :: As.map (am_v b)).toArray ((T.setVm vm₁).calling (F0 m pc ls (r.map (am_v b))) mk (Value.ref (b + o) :: As.map (am_v b)).toArray) := am_blind _ _ _ _ (am_pre C hH hS (As := .ref o :: As) (T.setVm vm₁) hT X₁.warmed)
  obtain ⟨oc, s₂, hsteps, -, hend, hq2⟩ := Steps.callFree hm p X₁.admits X₁.cas X₁.clock (acts := []) hfr happ hpre trivial
  rw [State.frames_setTop' _ X₁.here.top, X₁.tail] at hend
  have hheap : ((T.setVm vm₁).calling (F0 m pc ls (r.map (am_v b))) mk (Value.ref (b + o) :: As.map (am_v b)).toArray).heap = H := hT
  have hS2 : ∀ (L' : List Loc), va_F (fun q => b ≤ q) ((T.setVm vm₁).calling (F0 m pc ls (r.map (am_v b))) mk (Value.ref (b + o) :: As.map (am_v b)).toArray) s₂ → (∀ q ∈ L', b ≤ q.base) → va_S (fun q => b ≤ q) s.heap s₂.heap (locs ++ L') := by
    intro L' hF hL'
    obtain ⟨f1, f2⟩ := hF
    rw [hheap] at f1 f2
    refine ⟨Nat.le_trans hS.1 f1, fun q h3 h4 => ?_, fun q hq => ?_⟩
    · rw [f2 q (Nat.lt_of_lt_of_le h3 hS.1) h4]
      exact hS.2.1 q h3 h4
    · rcases List.mem_append.mp hq with h | h
      · exact hS.2.2 q h
      · exact hL' q h
  rcases hq2 with ⟨⟨v, w', rfl, hpo, hH', hF'⟩, L', ⟨-, hW2, hs2⟩, hL'⟩ | ⟨k', w', rfl, hpo, hH', hF', hW2, L', hs2, hL'⟩
  · obtain ⟨T', X', -, -, ht⟩ := X₁.outOf (g := F0 m pc ls (r.map (am_v b))) rfl hdg hend hW2 hs2
    have hh2 : s₂.heap = T'.heap := by rw [ht]; rfl
    obtain ⟨t2, a1, b1⟩ := kr v w' hpo p e s m args below meth c T'.heap (locs ++ L') ls C (by rw [← hh2]; exact hH') (by rw [← hh2]; exact hS2 L' hF' hL') hL T' rfl X'
    refine ⟨t2, hstep₁ _ (fun acts => ?_), b1⟩
    rw [doInvoke_state]
    refine hsteps.trans ?_
    rw [ht]
    rw [← am_ans_eq] at a1
    exact a1
  · obtain ⟨T', X', -, -, ht⟩ := X₁.outOfThrown (g := F0 m pc ls (r.map (am_v b))) rfl hend hW2 hs2
    have hh2 : s₂.heap = T'.heap := by rw [ht]; rfl
    rw [hh2] at hH'
    obtain ⟨r', hr', cellX, g1, g2, g3, -⟩ := hH'.2 k' _ (am_w_some (hpt k' w' hpo))
    obtain ⟨-, hfc, -⟩ := hK.1.1 c6 _ hc6
    obtain ⟨c3, c4, u1, u2, u3⟩ := Cond.castable_spec (hK.2 _ hcast rfl)
    cases hfc.symm.trans u1
    cases hfc.symm.trans u2
    obtain ⟨vm', X'', hcaught⟩ := th_caught X' (b + k') (g := F0 m pc ls (r.map (am_v b))) rfl hown htab hx h0 (hts _ (am_B_in hlink rfl)) hfc g1 (by rw [g3]; rfl) (by rw [g2]; exact u3)
    obtain ⟨t2, a1, b1⟩ := kt k' w' hpo p e s m args below meth c T'.heap (locs ++ L') ls C hH' (by rw [← hh2]; exact hS2 L' hF' hL') hL (T'.setVm vm') rfl X''
    refine ⟨t2, hstep₁ _ (fun acts => ?_), b1⟩
    rw [doInvoke_state]
    refine hsteps.trans ?_
    rw [ht]
    exact hcaught _ a1
end CTM
