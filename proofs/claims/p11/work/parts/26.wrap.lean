/-! ===== methods with a handler; arrays of longs ===== -/
def am_MW (Tt : List Cond) (cl : List vw_C) (l : Launch) (D : va_G) (tc : Nat → ClassId) (b : Nat) (y : MethodName) (cc : ByteArray) (nL : Nat) (ret : Option FieldType) (hh : List (Nat × Nat × Nat × Nat)) (d mc ms : Nat) (args : List Value) (w : am_W) (post : Option Value → am_W → Prop) : Prop :=
  Met l y (Cond.codeWith y cc nL ret hh :: am_B Tt) (am_rm d mc ms) (va_Pc (args.map (am_v b)) (fun U => (am_H cl D tc b w U.heap ∧ am_K Tt cl D tc U) ∧ b ≤ U.heap.size ∧ am_Z b U)) (am_Q cl D tc b post) mc ms (fun q => b ≤ q)
section AMW
variable {Tt : List Cond} {cl : List vw_C} {l : Launch} {D : va_G} {tc : Nat → ClassId} {b : Nat} {own host : String} {cc : ByteArray} {nL : Nat} {ret : Option FieldType} {ini : am_I} {R : Room} {mc ms : Nat} {post : Option Value → am_W → Prop} {QQ : List Frame → Array Value → State → State → Prop} {cells slots pc : Nat} {L : am_O} {st : List Value} {w : am_W} {tab : List am_T}
theorem am_mW {y : MethodName} {d : Nat} {args : List Value} {hh : List (Nat × Nat × Nat × Nat)} (ho : y.cls = own) (hy : plainName y.cls = true) (hini : ini.1 = false) (hhe : ini.2 = hh) (hlen : args.length ≤ nL) (hcat : args.all (fun v => Nat.beq v.category 1) = true) (hL : am_pad args nL = L)
    (k : am_R Tt cl l D tc b own cc nL ret ini (am_rm d mc ms) mc ms post 0 0 0 L [] w) : am_MW Tt cl l D tc b y cc nL ret hh d mc ms args w post := by
  refine va_MetW (cc := cc) (maxL := nL) (ret := ret) (hh := hh) hy rfl ?_
  intro p e s m args' below meth c s₁ B hml hv
  obtain ⟨rfl, ⟨hH, hK⟩, hbs, hZ⟩ := hv
  have hts : ∀ w ∈ am_B Tt, w.before (args.map (am_v b)).toArray s = true := fun w hw => atoms_spec (ws := Cond.codeWith y cc nL ret hh :: am_B Tt) B.pre w (List.mem_cons_of_mem _ hw)
  have hown : s.vm.findClass own = some m.cls := by rw [← ho]; exact findClass_of_methodNamed B.named
  have hex : c.exceptionTable.toList.map (fun h => (h.startPc, h.endPc, h.handlerPc, h.catchType)) = ini.2 := by
    obtain ⟨m9, meth9, c9, hn9, k1, k2, -, -, k3, -⟩ := Cond.codeWith_spec (atoms_spec (ws := Cond.codeWith y cc nL ret hh :: am_B Tt) B.pre _ List.mem_cons_self)
    cases B.named.symm.trans hn9
    cases B.method.symm.trans k1
    cases (Stand.of_body B).code.symm.trans k2
    rw [hhe]; exact k3
  have hcat' : ∀ v ∈ args, v.category = 1 := fun v hv => Nat.eq_of_beq_eq_true (List.all_eq_true.mp hcat v hv)
  have hsl : (lg_sl (args.map (am_v b))).length ≤ nL := by
    have : ∀ (vs : List Value), (∀ v ∈ vs, v.category = 1) → (lg_sl vs).length = vs.length := by
      intro vs hvs
      induction vs with
      | nil => rfl
      | cons v vs ih =>
        have h1 := hvs v List.mem_cons_self
        have h2 := ih (fun x hx => hvs x (List.mem_cons_of_mem _ hx))
        simp only [lg_sl, List.flatMap_cons, List.length_append, List.length_cons] at h2 ⊢
        rw [h2]
        cases v <;> simp [Value.category] at h1 ⊢ <;> omega
    rw [this _ (fun v hv => by obtain ⟨x, hx, rfl⟩ := List.mem_map.mp hv; rw [am_v_cat]; exact hcat' x hx), List.length_map]
    exact hlen
  have hl := lv_entry (args.map (am_v b)) (n := nL) hsl
  rw [lg_entry_eq]
  generalize (lg_sl (args.map (am_v b)) ++ List.replicate (nL - (lg_sl (args.map (am_v b))).length) Slot.unset).toArray = ls at hl ⊢
  have hLs := am_pad_L hcat' hlen hl
  rw [hL] at hLs
  exact k p e s m _ below meth c s.heap [] ls ⟨B.exec, B.bytes, hml, B.returns, fun h => (by rw [hini] at h; cases h), B.notSynchronized, hown, hts, hK, hbs, hZ, hex⟩ hH va_S.rf hLs
/-- a long goes into an array -/
theorem am_la (hM : am_ok Tt cl own host cc tab) {nxt a k d : Nat} {cst : Int32} (hf : am_find tab pc = some (pc, .lastore, nxt, a, k, d, cst)) {v : Int64} {x : Int32} {o n : Nat} {g : Nat → Int64} {r : List Value} {w' : am_W} (hst : st = .long v :: .int x :: .ref o :: r) (ho : am_nth w o = some (.inl (3, n, .inr (.inl g)))) (hin : vp_in x n) (hw : (am_put w o (.inl (3, n, .inr (.inl (vp_updL g x.toNatClampNeg v)))) fun w' => some w') = some w')
    (kk : am_RQ Tt cl l D tc b own cc nL ret ini R QQ cells slots nxt L r w') : am_RQ Tt cl l D tc b own cc nL ret ini R QQ cells slots pc L st w := by
  intro p e s m args below meth c H locs ls C hH hS hL
  obtain ⟨hd, hn, -⟩ := am_ok_at hM hf
  obtain ⟨hexec, hb, -, -, -, -, -, -, hK, -⟩ := id C
  simp only [am_len] at hd hn
  subst hn
  subst hst
  have ho' : w[o]? = some (.inl (3, n, .inr (.inl g))) := by rw [← am_nth_eq]; exact ho
  have he := am_w_some (tc := tc) (b := b) ho'
  obtain ⟨-, hw⟩ := am_put_inv hw
  cases hw
  refine W.last hexec hb (hH.2 o _ he) ((hK.1.2 3 _ rfl).1 n (fun j => .long (g j))) (fun q => by cases q) (by show ¬ (x < 0 ∨ (arrV _ _ _).slots.size ≤ _); rw [arrV_size]; exact hin) rfl rfl hd fun H1 e1 z oq => ?_
  refine kk p e s m args below meth c H1 _ ls C (hH.set ho' ?_ z oq) (hS.put z oq (Nat.le_add_right b o)) hL
  show H1[b + o]? = some (vp_cell _ _)
  rw [e1, vp_cell_l, vp_cell_l, arrV_store]
  congr 2
  funext q
  by_cases hq : q = x.toNatClampNeg <;> simp [updV, vp_updL, hq]
end AMW
