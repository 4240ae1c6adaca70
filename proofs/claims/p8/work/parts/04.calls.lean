/-! ===== contracts, ends, calls ===== -/
abbrev am_rm (d mc ms : Nat) : Room := { frames := d, cells := mc, slots := ms, locals := 30 * d }
abbrev am_ws (Tt : List Cond) (y : MethodName) (cc : ByteArray) (nL : Nat) (ret : Option FieldType) : List Cond := Cond.code y cc nL ret :: am_B Tt
/-- a method's contract: called with these values in this world it returns, and its answer and the world behind it are as said -/
def am_M (Tt : List Cond) (cl : List vw_C) (l : Launch) (D : va_G) (tc : Nat → ClassId) (b : Nat) (y : MethodName) (cc : ByteArray) (nL : Nat) (ret : Option FieldType) (d mc ms : Nat) (args : List Value) (w : am_W) (post : Option Value → am_W → Prop) : Prop :=
  Met l y (am_ws Tt y cc nL ret) (am_rm d mc ms) (va_Pc (args.map (am_v b)) (fun U => (am_H cl D tc b w U.heap ∧ am_K Tt cl D tc U) ∧ b ≤ U.heap.size ∧ am_Z b U)) (am_Q cl D tc b post) mc ms (fun q => b ≤ q)
/-- this answer, this world -/
def am_is (v : Option Value) (w : am_W) : Option Value → am_W → Prop := fun v' w' => v' = v ∧ w' = w
def am_ans : Option Value → List Value → List Value
  | some v, r => v :: r
  | none, r => r
def am_pop : Nat → List Value → List Value → Option (List Value × List Value)
  | 0, r, acc => some (acc, r)
  | n + 1, v :: r, acc => am_pop n r (v :: acc)
  | _ + 1, [], _ => none
theorem am_pop_inv {n : Nat} {st acc As r : List Value} (h : am_pop n st acc = some (As, r)) : As.reverse ++ r = acc.reverse ++ st ∧ As.length = n + acc.length := by
  induction n generalizing st acc with
  | zero =>
    cases h
    exact ⟨rfl, by simp⟩
  | succ n ih =>
    cases st with
    | nil => cases h
    | cons v st =>
      have := ih (st := st) (acc := v :: acc) h
      refine ⟨by rw [this.1]; simp, by rw [this.2]; simp; omega⟩
theorem lv_args_1 : ∀ (vs : List Value) (i : Nat), (∀ v ∈ vs, v.category = 1) → lv_args i vs = vs.mapIdx (fun j v => (i + j, v))
  | [], _, _ => rfl
  | v :: vs, i, h => by
    have hv : ¬ v.category = 2 := by rw [h v List.mem_cons_self]; decide
    rw [lv_args, if_neg hv, lv_args_1 vs (i + 1) (fun x hx => h x (List.mem_cons_of_mem _ hx)), List.mapIdx_cons]
    congr 1
    apply List.ext_getElem?
    intro j
    simp [List.getElem?_mapIdx]
    cases vs[j]? <;> simp
    omega
def am_pad (args : List Value) (n : Nat) : am_O := args.map some ++ List.replicate (n - args.length) none
theorem am_pad_L {b nL : Nat} {args : List Value} {ls : Array Slot} (hc : ∀ v ∈ args, v.category = 1) (hn : args.length ≤ nL) (h : lv_has ls nL (lv_args 0 (args.map (am_v b)))) : am_L b nL (am_pad args nL) ls := by
  have key : ∀ (j : Nat) (v : Value), (am_pad args nL)[j]? = some (some v) → args[j]? = some v := by
    intro j v hj
    unfold am_pad at hj
    by_cases hl : j < args.length
    · rw [List.getElem?_append_left (by simpa using hl), List.getElem?_map] at hj
      cases ha : args[j]? with
      | none => rw [ha] at hj; cases hj
      | some x => rw [ha] at hj; cases hj; rfl
    · rw [List.getElem?_append_right (by simpa using hl), List.getElem?_replicate] at hj
      split at hj <;> cases hj
  have hc' : ∀ v ∈ args.map (am_v b), v.category = 1 := by
    intro v hv
    obtain ⟨x, hx, rfl⟩ := List.mem_map.mp hv
    rw [am_v_cat]; exact hc x hx
  refine ⟨⟨h.1, h.2.1, fun q hq => ?_⟩, ?_, fun j v hj => hc v (List.mem_of_getElem? (key j v hj))⟩
  · obtain ⟨o, ho, hoq⟩ := List.mem_filterMap.mp hq
    obtain ⟨i, hi⟩ := List.getElem?_of_mem ho
    rw [List.getElem?_mapIdx] at hi
    obtain ⟨y, hy, rfl⟩ := Option.map_eq_some_iff.mp hi
    obtain ⟨x, rfl, rfl⟩ := Option.map_eq_some_iff.mp hoq
    refine h.2.2 _ ?_
    rw [lv_args_1 _ _ hc']
    refine List.mem_of_getElem? (i := i) ?_
    simp [List.getElem?_mapIdx, key i x hy]
  · simp [am_pad]; omega
section AMC
variable {Tt : List Cond} {cl : List vw_C} {l : Launch} {D : va_G} {tc : Nat → ClassId} {b : Nat} {own host : String} {cc : ByteArray} {nL : Nat} {ret : Option FieldType} {ini : am_I} {R : Room} {mc ms : Nat} {post : Option Value → am_W → Prop} {cells slots pc : Nat} {L : am_O} {st : List Value} {w : am_W} {tab : List am_T}
/-- a contract, out of the walk -/
theorem am_m {y : MethodName} {d : Nat} {args : List Value} (ho : y.cls = own) (hy : plainName y.cls = true) (hini : ini.1 = true → y.name = "<init>") (hh : ini.2 = []) (hlen : args.length ≤ nL) (hcat : args.all (fun v => Nat.beq v.category 1) = true) (hL : am_pad args nL = L)
    (k : am_R Tt cl l D tc b own cc nL ret ini (am_rm d mc ms) mc ms post 0 0 0 L [] w) : am_M Tt cl l D tc b y cc nL ret d mc ms args w post := by
  refine Met.ofW (cc := cc) (maxL := nL) (ret := ret) hy rfl ?_
  intro p e s m args' below meth c s₁ B hml hv
  obtain ⟨rfl, ⟨hH, hK⟩, hbs, hZ⟩ := hv
  have hts : ∀ w ∈ am_B Tt, w.before (args.map (am_v b)).toArray s = true := fun w hw => atoms_spec (ws := am_ws Tt y cc nL ret) B.pre w (List.mem_cons_of_mem _ hw)
  have hown : s.vm.findClass own = some m.cls := by rw [← ho]; exact findClass_of_methodNamed B.named
  have hex : c.exceptionTable.toList.map (fun h => (h.startPc, h.endPc, h.handlerPc, h.catchType)) = ini.2 := by
    have h1 := BodyLoose.noHandlers B (atoms_spec (ws := am_ws Tt y cc nL ret) B.pre _ List.mem_cons_self)
    have h2 : c.exceptionTable = #[] := by simpa [Array.isEmpty] using h1
    rw [hh, h2]; rfl
  have hin : meth.name = y.name := (name_of_methodNamed B.named B.method).1
  have hcat' : ∀ v ∈ args, v.category = 1 := fun v hv => Nat.eq_of_beq_eq_true (List.all_eq_true.mp hcat v hv)
  have hsl : (lg_sl (args.map (am_v b))).length ≤ nL := by
    have : ∀ (vs : List Value), (∀ v ∈ vs, v.category = 1) → (lg_sl vs).length = vs.length := by
      intro vs hvs
      induction vs with
      | nil => rfl
      | cons v vs ih =>
        have h1 := hvs v List.mem_cons_self
        have h2 := ih (fun x hx => hvs x (List.mem_cons_of_mem _ hx))
        simp only [lg_sl, List.flatMap_cons, List.length_append, List.length_cons] at h2 ⊢
        rw [h2]
        cases v <;> simp [Value.category] at h1 ⊢ <;> omega
    rw [this _ (fun v hv => by obtain ⟨x, hx, rfl⟩ := List.mem_map.mp hv; rw [am_v_cat]; exact hcat' x hx), List.length_map]
    exact hlen
  have hl := lv_entry (args.map (am_v b)) (n := nL) hsl
  rw [lg_entry_eq]
  generalize (lg_sl (args.map (am_v b)) ++ List.replicate (nL - (lg_sl (args.map (am_v b))).length) Slot.unset).toArray = ls at hl ⊢
  have hLs := am_pad_L hcat' hlen hl
  rw [hL] at hLs
  exact k p e s m _ below meth c s.heap [] ls ⟨B.exec, B.bytes, hml, B.returns, fun h => hin.trans (hini h), B.notSynchronized, hown, hts, hK, hbs, hZ, hex⟩ hH va_S.rf hLs
/-- the end with an int -/
theorem am_ri (hM : am_ok Tt cl own host cc tab) {nxt a k d : Nat} {cst : Int32} (hf : am_find tab pc = some (pc, .ireturn, nxt, a, k, d, cst)) {v : Int32} (hst : st = [.int v]) (hr : ret = some .int) (hc : cells ≤ mc) (hs : slots ≤ ms) (hp : post (some (.int v)) w) : am_R Tt cl l D tc b own cc nL ret ini R mc ms post cells slots pc L st w := by
  intro p e s m args below meth c H locs ls C hH hS hL
  obtain ⟨hd, -, -⟩ := am_ok_at hM hf
  obtain ⟨hexec, hb, -, hrt, -, hlk, -⟩ := id C
  subst hst
  refine W.widen hc hs ?_
  exact W.iret hexec hb (hrt.trans hr) (fun t ht _ => ⟨some (.int v), w, rfl, hp, by rw [ht]; exact hH, hS.F ht⟩) hS.2.2 hd hlk
/-- the end with a boolean -/
theorem am_rz (hM : am_ok Tt cl own host cc tab) {nxt a k d : Nat} {cst : Int32} (hf : am_find tab pc = some (pc, .ireturn, nxt, a, k, d, cst)) {v : Int32} (hst : st = [.int v]) (hr : ret = some .boolean) (hv : v = 0 ∨ v = 1) (hc : cells ≤ mc) (hs : slots ≤ ms) (hp : post (some (.int v)) w) : am_R Tt cl l D tc b own cc nL ret ini R mc ms post cells slots pc L st w := by
  intro p e s m args below meth c H locs ls C hH hS hL
  obtain ⟨hd, -, -⟩ := am_ok_at hM hf
  obtain ⟨hexec, hb, -, hrt, -, hlk, -⟩ := id C
  subst hst
  refine W.widen hc hs ?_
  exact W.zret (ty := .boolean) hexec hb (hrt.trans hr) (by rcases hv with rfl | rfl <;> rfl) (fun t ht _ => ⟨some (.int v), w, rfl, hp, by rw [ht]; exact hH, hS.F ht⟩) hS.2.2 hd hlk
/-- a byte's method: its answer is narrowed -/
theorem am_Wb {p : Program} {e : Env} {s : State} {m : MethodId} {args : Array Value} {below : List Frame} {meth : Method} {c : Code} {H : Heap} {locs : List Loc} {Qc : Array Value → State → Outcome → State → Prop} {free : Addr → Prop} {v : Int32} (hx : p.tables.exec = Jvm.exec) (hb : c.code = cc) (hr : meth.sig.returnType = some .byte) (hlocks : meth.locks = false)
    (hq : ∀ t : State, t.heap = H → s.WarmedH t.vm → Qc args s (.returned (some (.int v.toInt8.toInt32))) t) (hf : ∀ q ∈ locs, free q.base) {ls : Array Slot} (hdg : decode cc pc = .ok (.ireturn, 1)) : W p l e R s m args below meth c H locs cells slots (MQ below Qc args s cells slots free) (F0 m pc ls [.int v]) := by
  intro T hT X
  have hlocks : meth.locks = false := hlocks
  have hn : narrow .byte (.int v) = .int v.toInt8.toInt32 := rfl
  obtain ⟨fs, hret, hrun, hended, hW, hframe⟩ := X.leave (v := some (.int v.toInt8.toInt32)) (fun h => by rw [hr] at h; cases h)
  have hmeth' : T.vm.method? m = some meth := X.method'
  refine ⟨T.setFrames fs, ?_, .returned (some (.int v.toInt8.toInt32)), hrun, hended, hq _ hT hW, locs, ⟨⟨_, rfl⟩, hW, hframe⟩, hf⟩
  jvm_step X.here [X.here.top, hx, hb, hdg, hmeth', hr, hn]
  (try refine ⟨rfl, ?_⟩); (try refine ⟨rfl, ?_⟩)
  first | (intro acts; rw [hret _ acts rfl rfl rfl]) | rw [hret _ _ rfl rfl rfl]
  exact Steps.refl _
/-- the end with a byte -/
theorem am_rb (hM : am_ok Tt cl own host cc tab) {nxt a k d : Nat} {cst : Int32} (hf : am_find tab pc = some (pc, .ireturn, nxt, a, k, d, cst)) {v : Int32} (hst : st = [.int v]) (hr : ret = some .byte) (hc : cells ≤ mc) (hs : slots ≤ ms) (hp : post (some (.int v.toInt8.toInt32)) w) : am_R Tt cl l D tc b own cc nL ret ini R mc ms post cells slots pc L st w := by
  intro p e s m args below meth c H locs ls C hH hS hL
  obtain ⟨hd, -, -⟩ := am_ok_at hM hf
  obtain ⟨hexec, hb, -, hrt, -, hlk, -⟩ := id C
  subst hst
  refine W.widen hc hs ?_
  exact am_Wb hexec hb (hrt.trans hr) hlk (fun t ht _ => ⟨some (.int v.toInt8.toInt32), w, rfl, hp, by rw [ht]; exact hH, hS.F ht⟩) hS.2.2 hd
/-- the end without an answer -/
theorem am_rv (hM : am_ok Tt cl own host cc tab) {nxt a k d : Nat} {cst : Int32} (hf : am_find tab pc = some (pc, .return_, nxt, a, k, d, cst)) (hst : st = []) (hr : ret = none) (hc : cells ≤ mc) (hs : slots ≤ ms) (hp : post none w) : am_R Tt cl l D tc b own cc nL ret ini R mc ms post cells slots pc L st w := by
  intro p e s m args below meth c H locs ls C hH hS hL
  obtain ⟨hd, -, -⟩ := am_ok_at hM hf
  obtain ⟨hexec, hb, -, hrt, -, hlk, -⟩ := id C
  subst hst
  refine W.widen hc hs ?_
  exact W.vret hexec hb (hrt.trans hr) (fun t ht _ => ⟨none, w, rfl, hp, by rw [ht]; exact hH, hS.F ht⟩) hS.2.2 hd hlk
end AMC
