/-! ===== contracts of methods that may throw ===== -/
def th_Qc (cl : List vw_C) (D : va_G) (tc : Nat → ClassId) (b : Nat) (post : Option Value → am_W → Prop) (pt : Nat → am_W → Prop) (mc ms : Nat) : Array Value → State → Outcome → State → Prop := fun a st o t =>
  (am_Q cl D tc b post a st o t ∧ ∃ L, FrameEnd st o t L mc ms ∧ ∀ q ∈ L, b ≤ q.base) ∨ ∃ (k : Nat) (w : am_W), o = .threw (b + k) ∧ pt k w ∧ am_H cl D tc b w t.heap ∧ va_F (fun q => b ≤ q) st t ∧ st.WarmedH t.vm ∧ ∃ L, st.sameButNew ({ t with vm := st.vm } : State) L mc ms ∧ ∀ q ∈ L, b ≤ q.base
def am_MT (Tt : List Cond) (cl : List vw_C) (l : Launch) (D : va_G) (tc : Nat → ClassId) (b : Nat) (y : MethodName) (cc : ByteArray) (nL : Nat) (ret : Option FieldType) (d mc ms : Nat) (args : List Value) (w : am_W) (post : Option Value → am_W → Prop) (pt : Nat → am_W → Prop) : Prop :=
  MetFree l y (headSpec (am_ws Tt y cc nL ret) (am_rm d mc ms)) (va_Pc (args.map (am_v b)) (fun U => (am_H cl D tc b w U.heap ∧ am_K Tt cl D tc U) ∧ b ≤ U.heap.size ∧ am_Z b U)) (fun _ _ _ _ _ => True) (th_Qc cl D tc b post pt mc ms)
section TMT
variable {Tt : List Cond} {cl : List vw_C} {l : Launch} {D : va_G} {tc : Nat → ClassId} {b : Nat} {own host : String} {cc : ByteArray} {nL : Nat} {ret : Option FieldType} {ini : am_I} {R : Room} {mc ms : Nat} {post : Option Value → am_W → Prop} {pt : Nat → am_W → Prop} {QQ QQ' : List Frame → Array Value → State → State → Prop} {cells slots pc : Nat} {L : am_O} {st : List Value} {w : am_W}
theorem am_up (h : ∀ below args s t, QQ below args s t → QQ' below args s t) (k : am_RQ Tt cl l D tc b own cc nL ret ini R QQ cells slots pc L st w) : am_RQ Tt cl l D tc b own cc nL ret ini R QQ' cells slots pc L st w := by
  intro p e s m args below meth c H locs ls C hH hS hL T hT X
  obtain ⟨t, a, q⟩ := k p e s m args below meth c H locs ls C hH hS hL T hT X
  exact ⟨t, a, h _ _ _ _ q⟩
theorem am_mT {y : MethodName} {d : Nat} {args : List Value} (ho : y.cls = own) (hy : plainName y.cls = true) (hini : ini.1 = true → y.name = "<init>") (hh : ini.2 = []) (hlen : args.length ≤ nL) (hcat : args.all (fun v => Nat.beq v.category 1) = true) (hL : am_pad args nL = L)
    (k : am_RQ Tt cl l D tc b own cc nL ret ini (am_rm d mc ms) (th_Q cl D tc b post pt mc ms) 0 0 0 L [] w) : am_MT Tt cl l D tc b y cc nL ret d mc ms args w post pt := by
  refine MetFree.of_bodyS (code := cc) (maxLocals := nL) (ret := ret) hy ?_ ?_
  · intro args s m h hn
    obtain ⟨meth, c, h1, h2, h3, h4, h5, h6, -, -⟩ := Cond.code_spec hn (atoms_spec (ws := am_ws Tt y cc nL ret) h _ List.mem_cons_self)
    exact ⟨meth, c, h1, h2, h3, h4, h5, h6⟩
  intro p e s m args' below meth c s₁ B hml hv _
  obtain ⟨rfl, ⟨hH, hK⟩, hbs, hZ⟩ := hv
  have hts : ∀ w ∈ am_B Tt, w.before (args.map (am_v b)).toArray s = true := fun w hw => atoms_spec (ws := am_ws Tt y cc nL ret) B.pre w (List.mem_cons_of_mem _ hw)
  have hown : s.vm.findClass own = some m.cls := by rw [← ho]; exact findClass_of_methodNamed B.named
  have hex : c.exceptionTable.toList.map (fun h => (h.startPc, h.endPc, h.handlerPc, h.catchType)) = ini.2 := by
    have h1 := BodyLoose.noHandlers B (atoms_spec (ws := am_ws Tt y cc nL ret) B.pre _ List.mem_cons_self)
    have h2 : c.exceptionTable = #[] := by simpa [Array.isEmpty] using h1
    rw [hh, h2]; rfl
  have hin : meth.name = y.name := (name_of_methodNamed B.named B.method).1
  have hcat' : ∀ v ∈ args, v.category = 1 := fun v hv => Nat.eq_of_beq_eq_true (List.all_eq_true.mp hcat v hv)
  have hsl : (lg_sl (args.map (am_v b))).length ≤ nL := by
    have : ∀ (vs : List Value), (∀ v ∈ vs, v.category = 1) → (lg_sl vs).length = vs.length := by
      intro vs hvs
      induction vs with
      | nil => rfl
      | cons v vs ih =>
        have h1 := hvs v List.mem_cons_self
        have h2 := ih (fun x hx => hvs x (List.mem_cons_of_mem _ hx))
        simp only [lg_sl, List.flatMap_cons, List.length_append, List.length_cons] at h2 ⊢
        rw [h2]
        cases v <;> simp [Value.category] at h1 ⊢ <;> omega
    rw [this _ (fun v hv => by obtain ⟨x, hx, rfl⟩ := List.mem_map.mp hv; rw [am_v_cat]; exact hcat' x hx), List.length_map]
    exact hlen
  have hl := lv_entry (args.map (am_v b)) (n := nL) hsl
  have hh0 : s₁.heap = s.heap := by rw [B.state]; rfl
  rw [lg_entry_eq]
  generalize (lg_sl (args.map (am_v b)) ++ List.replicate (nL - (lg_sl (args.map (am_v b))).length) Slot.unset).toArray = ls at hl ⊢
  have hLs := am_pad_L hcat' hlen hl
  rw [hL] at hLs
  obtain ⟨t, a1, q⟩ := k p e s m _ below meth c s.heap [] ls ⟨B.exec, B.bytes, hml, B.returns, fun h => hin.trans (hini h), B.notSynchronized, hown, hts, hK, hbs, hZ, hex⟩ hH va_S.rf hLs s₁ hh0 (Stand.of_body B)
  rcases q with ⟨o, b1, b2, b3, b4⟩ | ⟨b1, k, w', b2, b3⟩
  · exact ⟨t, o, a1, b1, b2, Or.inl ⟨b3, b4⟩⟩
  · exact ⟨t, _, a1, b1, b2, Or.inr ⟨k, w', rfl, b3⟩⟩
end TMT
