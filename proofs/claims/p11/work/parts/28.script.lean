/-! ===== the law's side: the script, calls of methods with a handler, longs ===== -/
section SCR
variable {Tt : List Cond} {cl : List vw_C} {l : Launch} {D : va_G} {tc : Nat → ClassId} {b : Nat} {own host : String} {cc : ByteArray} {nL : Nat} {ret : Option FieldType} {ini : am_I} {R : Room} {mc ms : Nat} {post : Option Value → am_W → Prop} {QQ : List Frame → Array Value → State → State → Prop} {cells slots pc : Nat} {L : am_O} {st : List Value} {w : am_W} {tab : List am_T} {sb Ln : Nat} {xs : Nat → Int32}
/-- an end that is owed only where the script is as said -/
def sc_Q (sb Ln : Nat) (xs : Nat → Int32) (P : Array Value → State → Prop) (Q : List Frame → Array Value → State → State → Prop) : List Frame → Array Value → State → State → Prop := fun below args s t => (va_X sb Ln xs s s.heap ∧ P args s) → Q below args s t
theorem sc_no {P : Array Value → State → Prop} {p : Program} {e : Env} {s : State} {m : MethodId} {args : Array Value} {below : List Frame} {meth : Method} {c : Code} {H : Heap} {locs : List Loc} {g : JFrame} (h : ¬ (va_X sb Ln xs s s.heap ∧ P args s)) : W p l e R s m args below meth c H locs cells slots (sc_Q sb Ln xs P QQ below args s) g :=
  fun T _ _ => ⟨_, Steps.refl _, fun q => absurd q h⟩
/-- the script's reference is loaded -/
theorem sc_ld (hM : am_ok Tt cl own host cc tab) {i4 : Fin 4} {nxt a k d : Nat} {cst : Int32} (hf : am_find tab pc = some (pc, .aload_n i4, nxt, a, k, d, cst)) (hx : am_nth L i4.val = some (some (.retAddr sb)))
    (kk : am_RQ Tt cl l D tc b own cc nL ret ini R QQ cells slots nxt L (.retAddr sb :: st) w) : am_RQ Tt cl l D tc b own cc nL ret ini R QQ cells slots pc L st w := by
  intro p e s m args below meth c H locs ls C hH hS hL
  obtain ⟨hd, hn, -⟩ := am_ok_at hM hf
  obtain ⟨hexec, hb, -⟩ := id C
  simp only [am_len] at hd hn
  subst hn
  have hx' : L[i4.val]? = some (some (.retAddr sb)) := by rw [← am_nth_eq]; exact hx
  exact lv_aload_n hexec hb hd rfl (hL.at hx') (kk p e s m args below meth c H locs ls C hH hS hL)
/-- an int of the script -/
theorem sc_al {P : Array Value → State → Prop} (hM : am_ok Tt cl own host cc tab) {nxt a k d : Nat} {cst : Int32} (hf : am_find tab pc = some (pc, .iaload, nxt, a, k, d, cst)) {x : Int32} {r : List Value} (hst : st = .int x :: .retAddr sb :: r) (hsb : sb < b) (hin : vp_in x Ln)
    (kk : am_RQ Tt cl l D tc b own cc nL ret ini R (sc_Q sb Ln xs P QQ) cells slots nxt L (.int (xs x.toNatClampNeg) :: r) w) : am_RQ Tt cl l D tc b own cc nL ret ini R (sc_Q sb Ln xs P QQ) cells slots pc L st w := by
  intro p e s m args below meth c H locs ls C hH hS hL
  by_cases hX : va_X sb Ln xs s s.heap ∧ P args s
  · obtain ⟨hd, hn, -⟩ := am_ok_at hM hf
    obtain ⟨hexec, hb, -, -, -, -, -, -, -, hbs, -⟩ := id C
    simp only [am_len] at hd hn
    subst hn
    subst hst
    exact va_sld hexec hb hX.1 (by omega) (show ¬ b ≤ sb by omega) hS hin hd (kk p e s m args below meth c H locs ls C hH hS hL)
  · exact sc_no hX
/-- the script's length -/
theorem sc_ln {P : Array Value → State → Prop} (hM : am_ok Tt cl own host cc tab) {nxt a k d : Nat} {cst : Int32} (hf : am_find tab pc = some (pc, .arraylength, nxt, a, k, d, cst)) {r : List Value} (hst : st = .retAddr sb :: r) (hsb : sb < b)
    (kk : am_RQ Tt cl l D tc b own cc nL ret ini R (sc_Q sb Ln xs P QQ) cells slots nxt L (.int (Int32.ofNat Ln) :: r) w) : am_RQ Tt cl l D tc b own cc nL ret ini R (sc_Q sb Ln xs P QQ) cells slots pc L st w := by
  intro p e s m args below meth c H locs ls C hH hS hL
  by_cases hX : va_X sb Ln xs s s.heap ∧ P args s
  · obtain ⟨hd, hn, -⟩ := am_ok_at hM hf
    obtain ⟨hexec, hb, -, -, -, -, -, -, -, hbs, -⟩ := id C
    simp only [am_len] at hd hn
    subst hn
    subst hst
    exact va_slen hexec hb hX.1 (by omega) (show ¬ b ≤ sb by omega) hS hd (kk p e s m args below meth c H locs ls C hH hS hL)
  · exact sc_no hX
/-- a long out of an array -/
theorem sc_ll (hM : am_ok Tt cl own host cc tab) {nxt a k d : Nat} {cst : Int32} (hf : am_find tab pc = some (pc, .laload, nxt, a, k, d, cst)) {x : Int32} {o n : Nat} {g : Nat → Int64} {r : List Value} (hst : st = .int x :: .ref o :: r) (ho : am_nth w o = some (.inl (3, n, .inr (.inl g)))) (hin : vp_in x n)
    (kk : am_RQ Tt cl l D tc b own cc nL ret ini R QQ cells slots nxt L (.long (g x.toNatClampNeg) :: r) w) : am_RQ Tt cl l D tc b own cc nL ret ini R QQ cells slots pc L st w := by
  intro p e s m args below meth c H locs ls C hH hS hL
  obtain ⟨hd, hn, -⟩ := am_ok_at hM hf
  obtain ⟨hexec, hb, -, -, -, -, -, -, hK, -⟩ := id C
  simp only [am_len] at hd hn
  subst hn
  subst hst
  have ho' : w[o]? = some (.inl (3, n, .inr (.inl g))) := by rw [← am_nth_eq]; exact ho
  have he := am_w_some (tc := tc) (b := b) ho'
  exact va_lald hexec hb hK.1 hH.2 o 3 he rfl hin hd (kk p e s m args below meth c H locs ls C hH hS hL)
/-- two longs compared -/
theorem sc_lc (hM : am_ok Tt cl own host cc tab) {nxt a k d : Nat} {cst : Int32} (hf : am_find tab pc = some (pc, .lcmp, nxt, a, k, d, cst)) {x y : Int64} {r : List Value} (hst : st = .long y :: .long x :: r)
    (kk : am_RQ Tt cl l D tc b own cc nL ret ini R QQ cells slots nxt L (.int (lg_cmp x y) :: r) w) : am_RQ Tt cl l D tc b own cc nL ret ini R QQ cells slots pc L st w := by
  intro p e s m args below meth c H locs ls C hH hS hL
  obtain ⟨hd, hn, -⟩ := am_ok_at hM hf
  obtain ⟨hexec, hb, -⟩ := id C
  simp only [am_len] at hd hn
  subst hn
  subst hst
  exact W.lcmp hexec hb hd (kk p e s m args below meth c H locs ls C hH hS hL)
/-- a call of a static method that has handlers of its own -/
theorem sc_cW (hM : am_ok Tt cl own host cc tab) {idx nxt a k d0 : Nat} {cst : Int32} (hf : am_find tab pc = some (pc, .invokestatic idx, nxt, a, k, d0, cst)) {y : MethodName} {cc' : ByteArray} {nL' n d mc' ms' : Nat} {ret' : Option FieldType} {hh : List (Nat × Nat × Nat × Nat)} {As r : List Value} {post' : Option Value → am_W → Prop} (hm : am_MW Tt cl l D tc b y cc' nL' ret' hh d mc' ms' As w post')
    (hv : am_cs Tt own host idx y n = true) (hlk1 : Cond.methodLink own idx y ∈ Tt) (hco : Cond.codeWith y cc' nL' ret' hh ∈ Tt) (hp : am_pop n st [] = some (As, r)) (hro : Nat.ble (d + 1) R.frames = true ∧ Nat.ble (8 + (nL' + 11) + 30 * d) R.locals = true ∧ Nat.ble (r.map fun v => v.category).sum 8 = true) (hcs : cells + mc' ≤ R.cells ∧ slots + ms' ≤ R.slots)
    (kk : ∀ (v : Option Value) (w' : am_W), post' v w' → am_RQ Tt cl l D tc b own cc nL ret ini R QQ (cells + mc') (slots + ms') nxt L (am_ans v r) w') : am_RQ Tt cl l D tc b own cc nL ret ini R QQ cells slots pc L st w := by
  intro p e s m args below meth c H locs ls C hH hS hL
  obtain ⟨hd, hn, -⟩ := am_ok_at hM hf
  obtain ⟨hexec, hb, hml, hrt, hin, hlk, hown, hts, hK, hbs⟩ := id C
  simp only [am_len] at hd hn
  subst hn
  obtain ⟨hst, hlen⟩ := am_pop_inv hp
  have hst : st = As.reverse ++ r := by simpa using hst.symm
  simp only [am_cs, Bool.and_eq_true, decide_eq_true_eq] at hv
  obtain ⟨hcb, him⟩ := hv
  obtain ⟨-, hini, hy1, hy2, hds⟩ := am_cb_inv hcb
  have hG : GoodIn (am_B Tt) (Cond.codeWith y cc' nL' ret' hh :: am_B Tt) := by
    intro w hw
    rcases List.mem_cons.mp hw with rfl | hw
    · exact ⟨am_B_in hco rfl, good_of_word rfl⟩
    · exact am_B_good Tt w hw
  have hsz : ls.size = nL := hL.1.1
  have hstk : (F0 m pc ls (st.map (am_v b))).stack = (As.map (am_v b)).reverse ++ r.map (am_v b) := by
    show st.map (am_v b) = _
    rw [hst, List.map_append, List.map_reverse]
  have hW : 2 * (F0 m pc ls (st.map (am_v b))).monitorRoom + ((r.map (am_v b)).map fun v => v.category).sum ≤ 8 := by
    rw [am_cat_sum]; exact lv_room (Nat.le_of_ble_eq_true hro.2.2)
  have hn' : (As.map (am_v b)).length = n := by rw [List.length_map, hlen]; simp
  have hR : (am_rm d mc' ms').frames + 1 ≤ R.frames ∧ 8 + (nL' + 11) + (am_rm d mc' ms').locals ≤ R.locals := ⟨Nat.le_of_ble_eq_true hro.1, Nat.le_of_ble_eq_true hro.2.1⟩
  have hini' := hts _ (am_B_in hini rfl)
  have hcode := hts _ (am_B_in hco rfl)
  have hK0 : Back l R p e below s args y 3 8 (PreOf R mc' ms' (va_Pc (As.map (am_v b)) (fun U => (am_H cl D tc b w U.heap ∧ am_K Tt cl D tc U) ∧ b ≤ U.heap.size ∧ am_Z b U))) (PostOf (am_Q cl D tc b post') mc' ms' (fun q => b ≤ q)) :=
    va_backW (hh := hh) (bytes := cc') (maxL := nL') (ret := ret') hm am_blind rfl rfl hR.1 hR.2 (pay_in hts hG) List.mem_cons_self (fun a' U hW => word_at hW (Or.inl (by first | rfl | simp [Cond.onTables, Cond.keeps, Cond.steady])) hini')
  have fin : va_Run p l e R s m args below meth c H locs cells slots mc' ms' (F0 m pc ls (st.map (am_v b))) (r.map (am_v b)) (am_Q cl D tc b post' (As.map (am_v b)).toArray) (fun q => b ≤ q) := by
    intro T hT X
    obtain ⟨m9, methM, cM, hnamed, hmethM, -, -, -, -, -, -, hsigM⟩ := Cond.codeWith_spec hcode
    have hstatic : methM.isStatic = true := Cond.static_spec hnamed hmethM (hts _ (am_B_in him rfl))
    obtain ⟨kP, hkP, -⟩ := className_of_methodNamed hnamed
    have hinitP : kP.init = .initialized := Cond.initialized_spec (findClass_of_methodNamed hnamed) hkP hini'
    have hnl : (As.map (am_v b)).length = methM.sig.parameters.length := by
      rw [hsigM] at hds
      rw [hn']
      exact (Option.some.inj hds).symm
    obtain ⟨vm₁, X₁, hstep₁⟩ := X.invokestatic hexec hown (hts _ (am_B_in hlk1 rfl)) hnamed hmethM hstatic hkP hinitP ⟨hy1, hy2⟩ (g := F0 m pc ls (st.map (am_v b))) rfl (argsL := As.map (am_v b)) (rest := r.map (am_v b)) hnl hstk (by rw [hb]; exact hd)
    obtain ⟨v, ⟨U', l2, c2, s2⟩, X', ⟨g', mk, t, L', e1, e2, hq, h1, hL', h2, h3⟩, hsteps⟩ := hK0 m meth c ⟨T.setVm vm₁, locs, cells, slots⟩ { (F0 m pc ls (st.map (am_v b))) with stack := r.map (am_v b) } (.invokestatic idx) m9 (As.map (am_v b)).toArray X₁ rfl (hsz.trans hml.symm) (by rw [hb]; exact hd) hW (X₁.named hnamed) ⟨hcs.1, hcs.2, am_pre C hH hS (As := As) (T.setVm vm₁) hT X₁.warmed⟩
    dsimp only [Pt.U, Pt.locs, Pt.cells, Pt.slots] at X' e1 e2 h1 h2 h3 hsteps
    subst h1; subst h2; subst h3
    exact ⟨v, (T.setVm vm₁).calling g' mk (As.map (am_v b)).toArray, t, U', L', hT, X', hL', e1, e2, hq, fun target h => hstep₁ _ fun acts => by rw [doInvoke_state]; exact hsteps.trans h⟩
  refine am_back rfl fin hS fun v w' H1 locs1 hpo hH1 hS1 => ?_
  rw [am_ans_eq]
  exact kk v w' hpo p e s m args below meth c H1 locs1 ls C hH1 hS1 hL
/-- a contract of a method that reads the script -/
def sc_M (Tt : List Cond) (cl : List vw_C) (l : Launch) (D : va_G) (tc : Nat → ClassId) (b : Nat) (sb Ln : Nat) (xs : Nat → Int32) (y : MethodName) (cc : ByteArray) (nL : Nat) (ret : Option FieldType) (d mc ms : Nat) (args : List Value) (w : am_W) (post : Option Value → am_W → Prop) : Prop :=
  Met l y (am_ws Tt y cc nL ret) (am_rm d mc ms) (va_Pc (args.map (am_v b)) (fun U => ((am_H cl D tc b w U.heap ∧ am_K Tt cl D tc U) ∧ b ≤ U.heap.size ∧ am_Z b U) ∧ va_X sb Ln xs U U.heap)) (am_Q cl D tc b post) mc ms (fun q => b ≤ q)
theorem sc_m {y : MethodName} {d : Nat} {args : List Value} (ho : y.cls = own) (hy : plainName y.cls = true) (hini : ini.1 = false) (hh : ini.2 = []) (hlen : args.length ≤ nL) (hcat : args.all (fun v => Nat.beq v.category 1) = true) (hL : am_pad args nL = L)
    (k : am_RQ Tt cl l D tc b own cc nL ret ini (am_rm d mc ms) (sc_Q sb Ln xs (fun _ _ => True) (fun below args s => MQ below (am_Q cl D tc b post) args s mc ms (fun q => b ≤ q))) 0 0 0 L [] w) : sc_M Tt cl l D tc b sb Ln xs y cc nL ret d mc ms args w post := by
  refine Met.ofW (cc := cc) (maxL := nL) (ret := ret) hy rfl ?_
  intro p e s m args' below meth c s₁ B hml hv
  obtain ⟨rfl, ⟨⟨hH, hK⟩, hbs, hZ⟩, hX⟩ := hv
  have hts : ∀ w ∈ am_B Tt, w.before (args.map (am_v b)).toArray s = true := fun w hw => atoms_spec (ws := am_ws Tt y cc nL ret) B.pre w (List.mem_cons_of_mem _ hw)
  have hown : s.vm.findClass own = some m.cls := by rw [← ho]; exact findClass_of_methodNamed B.named
  have hex : c.exceptionTable.toList.map (fun h => (h.startPc, h.endPc, h.handlerPc, h.catchType)) = ini.2 := by
    have h1 := BodyLoose.noHandlers B (atoms_spec (ws := am_ws Tt y cc nL ret) B.pre _ List.mem_cons_self)
    have h2 : c.exceptionTable = #[] := by simpa [Array.isEmpty] using h1
    rw [hh, h2]; rfl
  have hcat' : ∀ v ∈ args, v.category = 1 := fun v hv => Nat.eq_of_beq_eq_true (List.all_eq_true.mp hcat v hv)
  have hsl : (lg_sl (args.map (am_v b))).length ≤ nL := by
    have : ∀ (vs : List Value), (∀ v ∈ vs, v.category = 1) → (lg_sl vs).length = vs.length := by
      intro vs hvs
      induction vs with
      | nil => rfl
      | cons v vs ih =>
        have h1 := hvs v List.mem_cons_self
        have h2 := ih (fun x hx => hvs x (List.mem_cons_of_mem _ hx))
        simp only [lg_sl, List.flatMap_cons, List.length_append, List.length_cons] at h2 ⊢
        rw [h2]
        cases v <;> simp [Value.category] at h1 ⊢ <;> omega
    rw [this _ (fun v hv => by obtain ⟨x, hx, rfl⟩ := List.mem_map.mp hv; rw [am_v_cat]; exact hcat' x hx), List.length_map]
    exact hlen
  have hl := lv_entry (args.map (am_v b)) (n := nL) hsl
  rw [lg_entry_eq]
  generalize (lg_sl (args.map (am_v b)) ++ List.replicate (nL - (lg_sl (args.map (am_v b))).length) Slot.unset).toArray = ls at hl ⊢
  have hLs := am_pad_L hcat' hlen hl
  rw [hL] at hLs
  intro T hT X0
  obtain ⟨t, a1, q⟩ := k p e s m _ below meth c s.heap [] ls ⟨B.exec, B.bytes, hml, B.returns, fun h => (by rw [hini] at h; cases h), B.notSynchronized, hown, hts, hK, hbs, hZ, hex⟩ hH va_S.rf hLs T hT X0
  exact ⟨t, a1, q ⟨hX, trivial⟩⟩
/-- a call of it -/
theorem sc_cS {P : Array Value → State → Prop} (hM : am_ok Tt cl own host cc tab) {idx nxt a k d0 : Nat} {cst : Int32} (hf : am_find tab pc = some (pc, .invokestatic idx, nxt, a, k, d0, cst)) {y : MethodName} {cc' : ByteArray} {nL' n d mc' ms' : Nat} {ret' : Option FieldType} {As r : List Value} {post' : Option Value → am_W → Prop} (hm : sc_M Tt cl l D tc b sb Ln xs y cc' nL' ret' d mc' ms' As w post') (hsb : sb < b)
    (hv : am_cs Tt own host idx y n = true) (hlk1 : Cond.methodLink own idx y ∈ Tt) (hco : Cond.code y cc' nL' ret' ∈ Tt) (hp : am_pop n st [] = some (As, r)) (hro : Nat.ble (d + 1) R.frames = true ∧ Nat.ble (8 + (nL' + 11) + 30 * d) R.locals = true ∧ Nat.ble (r.map fun v => v.category).sum 8 = true) (hcs : cells + mc' ≤ R.cells ∧ slots + ms' ≤ R.slots)
    (kk : ∀ (v : Option Value) (w' : am_W), post' v w' → am_RQ Tt cl l D tc b own cc nL ret ini R (sc_Q sb Ln xs P QQ) (cells + mc') (slots + ms') nxt L (am_ans v r) w') : am_RQ Tt cl l D tc b own cc nL ret ini R (sc_Q sb Ln xs P QQ) cells slots pc L st w := by
  intro p e s m args below meth c H locs ls C hH hS hL
  by_cases hX : va_X sb Ln xs s s.heap ∧ P args s
  · obtain ⟨hd, hn, -⟩ := am_ok_at hM hf
    obtain ⟨hexec, hb, hml, hrt, hin, hlk, hown, hts, hK, hbs, hZ, -⟩ := id C
    simp only [am_len] at hd hn
    subst hn
    obtain ⟨hst, hlen⟩ := am_pop_inv hp
    have hst : st = As.reverse ++ r := by simpa using hst.symm
    simp only [am_cs, Bool.and_eq_true, decide_eq_true_eq] at hv
    obtain ⟨hcb, him⟩ := hv
    obtain ⟨-, hini, hy1, hy2, hds⟩ := am_cb_inv hcb
    have hG := am_good (Tt := Tt) hco
    have hsz : ls.size = nL := hL.1.1
    have hstk : (F0 m pc ls (st.map (am_v b))).stack = (As.map (am_v b)).reverse ++ r.map (am_v b) := by
      show st.map (am_v b) = _
      rw [hst, List.map_append, List.map_reverse]
    have hW : 2 * (F0 m pc ls (st.map (am_v b))).monitorRoom + ((r.map (am_v b)).map fun v => v.category).sum ≤ 8 := by
      rw [am_cat_sum]; exact lv_room (Nat.le_of_ble_eq_true hro.2.2)
    have hpv : PreS s H (va_Pc (As.map (am_v b)) (fun U => ((am_H cl D tc b w U.heap ∧ am_K Tt cl D tc U) ∧ b ≤ U.heap.size ∧ am_Z b U) ∧ va_X sb Ln xs U U.heap)) (As.map (am_v b)) := by
      refine ⟨fun a U g mk q => ?_, fun U hU hWm => ?_⟩
      · have q1 := am_blind (Tt := Tt) (cl := cl) (D := D) (tc := tc) (b := b) (w := w) (As := As.map (am_v b)) a U g mk ⟨q.1, q.2.1⟩
        exact ⟨q1.1, q1.2, q.2.2.moved (u := U) (U := U.calling g mk a) (Vm.Alike.refl U.vm)⟩
      · have q1 := am_pre C hH hS (As := As) U hU hWm
        refine ⟨q1.1, q1.2, ?_⟩
        refine va_X.moved hWm.alike (hX.1.kept ?_)
        rw [hU]
        exact hS.2.1 sb (by omega) (show ¬ b ≤ sb by omega)
    have hn' : (As.map (am_v b)).length = n := by rw [List.length_map, hlen]; simp
    have hR : (am_rm d mc' ms').frames + 1 ≤ R.frames ∧ 8 + (nL' + 11) + (am_rm d mc' ms').locals ≤ R.locals := ⟨Nat.le_of_ble_eq_true hro.1, Nat.le_of_ble_eq_true hro.2.1⟩
    have fin : va_Run p l e R s m args below meth c H locs cells slots mc' ms' (F0 m pc ls (st.map (am_v b))) (r.map (am_v b)) (am_Q cl D tc b post' (As.map (am_v b)).toArray) (fun q => b ≤ q) :=
      va_runS (n := n) ⟨hexec, hb, hml, hown, hts⟩ hm ⟨callB_of n hts hG rfl rfl rfl (hts _ (am_B_in hini rfl)) (hts _ (am_B_in hlk1 rfl)) ⟨hy1, hy2, hds⟩ hR, hts _ (am_B_in him rfl)⟩ hpv rfl hn' hsz hstk hW hd hcs
    refine am_back rfl fin hS fun v w' H1 locs1 hpo hH1 hS1 => ?_
    rw [am_ans_eq]
    exact kk v w' hpo p e s m args below meth c H1 locs1 ls C hH1 hS1 hL
  · exact sc_no hX
end SCR
