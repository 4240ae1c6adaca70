/-! ===== what a table's rows must be ===== -/
def am_len : Instr → Nat
  | .bipush _ => 2
  | .sipush _ => 3
  | .ldc _ => 2
  | .iload _ => 2
  | .aload _ => 2
  | .istore _ => 2
  | .astore _ => 2
  | .iinc _ _ => 3
  | .goto _ => 3
  | .getfield _ => 3
  | .putfield _ => 3
  | .ifCond _ _ => 3
  | .if_icmp _ _ => 3
  | .invokevirtual _ => 3
  | .invokestatic _ => 3
  | .invokespecial _ => 3
  | .new _ => 3
  | .newarray _ => 2
  | _ => 1
/-- a field's link: of the class itself, or of a nest mate -/
def am_fl (Tt : List Cond) (cl : List vw_C) (own host : String) (idx a k : Nat) : Bool := match cl[a]? with
  | some q => Nat.blt k q.2.2 && (decide (Cond.fieldLink own idx (q.2.1 k).1 (q.2.1 k).2.1 (q.2.1 k).2.2.1 ∈ Tt) || decide (Cond.fieldLinkNest own idx (q.2.1 k).1 (q.2.1 k).2.1 (q.2.1 k).2.2.1 host ∈ Tt))
  | none => false
/-- a field's kind: 0 an int, 1 a boolean, 2 a reference; 10 more for a final one of the class itself -/
def am_kd (cl : List vw_C) (own : String) (a k d : Nat) : Bool := match cl[a]? with
  | some q => match parseFieldDescriptor (q.2.1 k).2.2.1, (q.2.1 k).2.2.2 with
    | some .int, false => Nat.beq d 0
    | some .boolean, false => Nat.beq d 1
    | some (.object _), false => Nat.beq d 2
    | some (.array _), false => Nat.beq d 2
    | some .int, true => Nat.beq d 10 && decide ((q.2.1 k).1 = own)
    | some .boolean, true => Nat.beq d 11 && decide ((q.2.1 k).1 = own)
    | some (.object _), true => Nat.beq d 12 && decide ((q.2.1 k).1 = own)
    | some (.array _), true => Nat.beq d 12 && decide ((q.2.1 k).1 = own)
    | _, _ => false
  | none => false
def am_xb (Tt : List Cond) (cl : List vw_C) (own host : String) (i : Instr) (pc a k d : Nat) (cst : Int32) : Bool := match i with
  | .iconst n => Int32.ofInt n == cst
  | .bipush n => (Int8.ofInt n).toInt32 == cst
  | .sipush n => (Int16.ofInt n).toInt32 == cst
  | .ldc idx => decide (Cond.constant own idx cst ∈ Tt)
  | .iinc _ n => Int32.ofInt n == cst
  | .goto off => decide ((pc : Int) + off = (a : Int))
  | .ifCond _ off => decide ((pc : Int) + off = (a : Int))
  | .if_icmp _ off => decide ((pc : Int) + off = (a : Int))
  | .getfield idx => am_fl Tt cl own host idx a k
  | .putfield idx => am_fl Tt cl own host idx a k && am_kd cl own a k d
  | _ => true
def am_okb (Tt : List Cond) (cl : List vw_C) (own host : String) (cc : ByteArray) (e : am_T) : Bool :=
  decide (decode cc e.1 = .ok (e.2.1, am_len e.2.1)) && Nat.beq e.2.2.1 (e.1 + am_len e.2.1) && am_xb Tt cl own host e.2.1 e.1 e.2.2.2.1 e.2.2.2.2.1 e.2.2.2.2.2.1 e.2.2.2.2.2.2
def am_ok (Tt : List Cond) (cl : List vw_C) (own host : String) (cc : ByteArray) (tab : List am_T) : Prop := ∀ e ∈ tab, am_okb Tt cl own host cc e = true
theorem am_ok_at {Tt : List Cond} {cl : List vw_C} {own host : String} {cc : ByteArray} {tab : List am_T} (h : am_ok Tt cl own host cc tab) {pc : Nat} {i : Instr} {nxt a k d : Nat} {cst : Int32} (hf : am_find tab pc = some (pc, i, nxt, a, k, d, cst)) :
    decode cc pc = .ok (i, am_len i) ∧ nxt = pc + am_len i ∧ am_xb Tt cl own host i pc a k d cst = true := by
  have h1 := h _ (am_find_inv hf).1
  simp only [am_okb, Bool.and_eq_true, decide_eq_true_eq] at h1
  exact ⟨h1.1.1, Nat.eq_of_beq_eq_true h1.1.2, h1.2⟩
/-! the words that hold in any state behind, and those that hold by the nest -/
def am_isN : Cond → Bool
  | .fieldLinkNest _ _ _ _ _ _ => true
  | .methodLinkNest _ _ _ _ => true
  | .stringRef _ _ _ => true
  | .declares _ => true
  | .castable _ _ => true
  | _ => false
def am_B (Tt : List Cond) : List Cond := Tt.filter goodWord
theorem am_B_in {Tt : List Cond} {w : Cond} (h : w ∈ Tt) (hg : goodWord w = true) : w ∈ am_B Tt := List.mem_filter.mpr ⟨h, hg⟩
theorem am_B_good (Tt : List Cond) : GoodIn (am_B Tt) (am_B Tt) := fun w h => ⟨h, good_of_word (List.mem_filter.mp h).2⟩
def am_K (Tt : List Cond) (cl : List vw_C) (D : va_G) (tc : Nat → ClassId) (U : State) : Prop := va_K D cl (am_ts tc) U ∧ ∀ w ∈ Tt, am_isN w = true → va_Nw w U
theorem am_str {a t : String} {k : Nat} {u U : State} (hv : u.vm = U.vm) (h : va_Nw (.stringRef a k t) u) : va_Nw (.stringRef a k t) U := by
  have h1 : (Cond.stringRef a k t).before #[] u = true := h
  show (Cond.stringRef a k t).before #[] U = true
  simp only [Cond.before, Cond.holds, Cond.value, State.names, State.poolOf?, State.resolvedAt?, hv] at h1 ⊢
  exact h1
theorem am_K.warm {Tt : List Cond} {cl : List vw_C} {D : va_G} {tc : Nat → ClassId} {s U : State} (hW : s.WarmedH U.vm) (h : am_K Tt cl D tc s) : am_K Tt cl D tc U := by
  refine ⟨va_K.moved hW.alike h.1, fun w hw hn => ?_⟩
  have h1 := h.2 w hw hn
  cases w <;> first | (cases hn; done) | exact va_Nw.warmF hW h1 | exact va_Nw.warmM hW h1 | exact va_Nw.warmD hW h1 | exact va_Nw.warmC hW h1 | exact am_str (u := s.setVm U.vm) rfl (Cond.stringRef_warmed hW h1)
theorem am_K.same {Tt : List Cond} {cl : List vw_C} {D : va_G} {tc : Nat → ClassId} {s U : State} (hv : s.vm = U.vm) (h : am_K Tt cl D tc s) : am_K Tt cl D tc U := by
  refine ⟨va_K.moved (by rw [hv]; exact Vm.Alike.refl _) h.1, fun w hw hn => ?_⟩
  have h1 := h.2 w hw hn
  cases w <;> first | (cases hn; done) | exact va_tabs rfl hv h1 | exact am_str hv h1
/-- the two statics of Throwable that a throw reads: each is null or some object, in a cell below the world -/
def am_Z1 (b : Nat) (n d : String) (U : State) : Prop := va_Zq "java/lang/Throwable" n d (fun q => b ≤ q) U U.heap ∧ (Cond.laysStatic "java/lang/Throwable" n d).before #[] U = true
theorem am_Z1.next {b : Nat} {n d : String} {s U : State} {locs : List Loc} (h : am_Z1 b n d s) (hvm : s.vm.Alike U.vm) (hS : va_S (fun q => b ≤ q) s.heap U.heap locs) : am_Z1 b n d U := by
  have hz : va_Zq "java/lang/Throwable" n d (fun q => b ≤ q) U U.heap := (h.1.moved hvm).kept hS.2.1
  refine ⟨hz, ?_⟩
  have h1 : (Cond.laysStatic "java/lang/Throwable" n d).before #[] (s.setVm U.vm) = true := Cond.laysStatic_setVm hvm h.2
  obtain ⟨c, k, i, f, a, cell, hc, hi, hst, ha, hcell, hs, hcls, hlt, hty⟩ := Cond.laysStatic_spec h1
  have hna : ¬ b ≤ a := by
    rcases hz with hz | ⟨t, hz⟩ <;>
    · obtain ⟨cf, kf, fi, f', a', cell', q1, q2, q3, q4, q5, q6, q7, q8⟩ := hz
      have e := q1.symm.trans (hi : U.fieldFound? "java/lang/Throwable" n d = some (c, k, i, f))
      cases e
      cases q4.symm.trans ha
      exact q8
  have hcell' : U.heap[a]? = some cell := by
    have hlt' : a < s.heap.size := (Array.getElem?_eq_some_iff.mp (hcell : s.heap[a]? = some cell)).1
    rw [hS.2.1 a hlt' hna]
    exact hcell
  exact Cond.laysStatic_of (s := U) hc hi hst ha hcell' hs hcls hlt hty
def am_Z (b : Nat) (U : State) : Prop := am_Z1 b "UNASSIGNED_STACK" "[Ljava/lang/StackTraceElement;" U ∧ am_Z1 b "SUPPRESSED_SENTINEL" "Ljava/util/List;" U
theorem am_Z.next {b : Nat} {s U : State} {locs : List Loc} (h : am_Z b s) (hvm : s.vm.Alike U.vm) (hS : va_S (fun q => b ≤ q) s.heap U.heap locs) : am_Z b U := ⟨h.1.next hvm hS, h.2.next hvm hS⟩
/-- the classes' own words -/
def am_cl (Tt : List Cond) (cl : List vw_C) : Prop := ∀ (ci : Nat) (q : vw_C), cl[ci]? = some q → (∀ w ∈ u_ws q.1 q.2.1 q.2.2, w ∈ am_B Tt) ∧ (∃ ty : Nat → FieldType, ∀ k, k < q.2.2 → parseFieldDescriptor (q.2.1 k).2.2.1 = some (ty k)) ∧ (∀ a, a < q.2.2 → ∀ b, b < q.2.2 → a ≠ b → (q.2.1 a).2.1 ≠ (q.2.1 b).2.1)
/-! the locals -/
def am_lp (b : Nat) (L : am_O) : List (Nat × Value) := (L.mapIdx (fun j x => x.map (fun v => (j, am_v b v)))).filterMap id
theorem am_lp_mem {b : Nat} {L : am_O} {j : Nat} {v : Value} (h : L[j]? = some (some v)) : (j, am_v b v) ∈ am_lp b L := by
  refine List.mem_filterMap.mpr ⟨some (j, am_v b v), ?_, rfl⟩
  refine List.mem_of_getElem? (i := j) ?_
  simp [List.getElem?_mapIdx, h]
def am_L (b nL : Nat) (L : am_O) (ls : Array Slot) : Prop := lv_has ls nL (am_lp b L) ∧ L.length ≤ nL ∧ ∀ (j : Nat) (v : Value), L[j]? = some (some v) → v.category = 1
theorem am_v_cat (b : Nat) (v : Value) : (am_v b v).category = v.category := by cases v <;> rfl
theorem am_L.at {b nL : Nat} {L : am_O} {ls : Array Slot} (h : am_L b nL L ls) {j : Nat} {v : Value} (hj : L[j]? = some (some v)) : ls[j]? = some (.val (am_v b v)) := h.1.2.2 _ (am_lp_mem hj)
theorem am_L.set {b nL : Nat} {L : am_O} {ls ls' : Array Slot} (h : am_L b nL L ls) {j : Nat} {v : Value} (hv : v.category = 1)
    (h' : lv_has ls' nL ((j, am_v b v) :: (am_lp b L).filter (fun q => !(q.1 == j) && !(q.1 + 1 == j && q.2.category == 2)))) : am_L b nL (L.set j (some v)) ls' := by
  have key : ∀ (i : Nat) (x : Value), (L.set j (some v))[i]? = some (some x) → (i = j ∧ x = v) ∨ (i ≠ j ∧ L[i]? = some (some x)) := by
    intro i x hx
    rw [List.getElem?_set] at hx
    by_cases hij : j = i
    · subst hij
      rw [if_pos rfl] at hx
      split at hx
      · cases hx; exact Or.inl ⟨rfl, rfl⟩
      · cases hx
    · rw [if_neg hij] at hx
      exact Or.inr ⟨fun q => hij q.symm, hx⟩
  refine ⟨⟨h'.1, h'.2.1, fun q hq => ?_⟩, by rw [List.length_set]; exact h.2.1, fun i x hx => ?_⟩
  · obtain ⟨o, ho, rfl'⟩ := List.mem_filterMap.mp hq
    obtain ⟨i, hi⟩ := List.getElem?_of_mem ho
    rw [List.getElem?_mapIdx] at hi
    obtain ⟨y, hy, rfl⟩ := Option.map_eq_some_iff.mp hi
    obtain ⟨x, rfl, rfl⟩ := Option.map_eq_some_iff.mp rfl'
    rcases key i x hy with ⟨rfl, rfl⟩ | ⟨hne, hL⟩
    · exact h'.2.2 _ List.mem_cons_self
    · refine h'.2.2 _ (List.mem_cons_of_mem _ (List.mem_filter.mpr ⟨am_lp_mem hL, ?_⟩))
      have hc := h.2.2 i x hL
      simp [hne, am_v_cat, hc]
  · rcases key i x hx with ⟨-, rfl⟩ | ⟨-, hL⟩
    · exact hv
    · exact h.2.2 i x hL
theorem am_lp_at {b : Nat} {L : am_O} {j : Nat} {v : Value} (h : L[j]? = some (some v)) : ∃ k : Nat, (am_lp b L)[k]? = some (j, am_v b v) := List.getElem?_of_mem (am_lp_mem h)
/-! ===== the judgement: from here the machine comes to the method's end ===== -/
/-- is it a constructor; its handlers -/
abbrev am_I : Type := Bool × List (Nat × Nat × Nat × Nat)
def am_C (Tt : List Cond) (cl : List vw_C) (D : va_G) (tc : Nat → ClassId) (b : Nat) (own : String) (cc : ByteArray) (nL : Nat) (ret : Option FieldType) (ini : am_I) (p : Program) (s : State) (m : MethodId) (args : Array Value) (meth : Method) (c : Code) : Prop :=
  p.tables.exec = Jvm.exec ∧ c.code = cc ∧ c.maxLocals = nL ∧ meth.sig.returnType = ret ∧ (ini.1 = true → meth.name = "<init>") ∧ meth.locks = false ∧ s.vm.findClass own = some m.cls ∧ (∀ w ∈ am_B Tt, w.before args s = true) ∧ am_K Tt cl D tc s ∧ b ≤ s.heap.size ∧ am_Z b s ∧ c.exceptionTable.toList.map (fun h => (h.startPc, h.endPc, h.handlerPc, h.catchType)) = ini.2
def am_H (cl : List vw_C) (D : va_G) (tc : Nat → ClassId) (b : Nat) (w : am_W) (H : Heap) : Prop := H.size = b + w.length ∧ va_P D cl (am_w tc b w) H
def am_Q (cl : List vw_C) (D : va_G) (tc : Nat → ClassId) (b : Nat) (post : Option Value → am_W → Prop) : Array Value → State → Outcome → State → Prop := fun _ st oc t => ∃ (r : Option Value) (w : am_W), oc = .returned (r.map (am_v b)) ∧ post r w ∧ am_H cl D tc b w t.heap ∧ va_F (fun q => b ≤ q) st t
/-- the same with any end QQ: am_R is its case for methods that return -/
def am_RQ (Tt : List Cond) (cl : List vw_C) (l : Launch) (D : va_G) (tc : Nat → ClassId) (b : Nat) (own : String) (cc : ByteArray) (nL : Nat) (ret : Option FieldType) (ini : am_I) (R : Room) (QQ : List Frame → Array Value → State → State → Prop) (cells slots pc : Nat) (L : am_O) (st : List Value) (w : am_W) : Prop :=
  ∀ (p : Program) (e : Env) (s : State) (m : MethodId) (args : Array Value) (below : List Frame) (meth : Method) (c : Code) (H : Heap) (locs : List Loc) (ls : Array Slot), am_C Tt cl D tc b own cc nL ret ini p s m args meth c → am_H cl D tc b w H → va_S (fun q => b ≤ q) s.heap H locs → am_L b nL L ls →
    W p l e R s m args below meth c H locs cells slots (QQ below args s) (F0 m pc ls (st.map (am_v b)))
abbrev am_R (Tt : List Cond) (cl : List vw_C) (l : Launch) (D : va_G) (tc : Nat → ClassId) (b : Nat) (own : String) (cc : ByteArray) (nL : Nat) (ret : Option FieldType) (ini : am_I) (R : Room) (mc ms : Nat) (post : Option Value → am_W → Prop) (cells slots pc : Nat) (L : am_O) (st : List Value) (w : am_W) : Prop :=
  am_RQ Tt cl l D tc b own cc nL ret ini R (fun below args s => MQ below (am_Q cl D tc b post) args s mc ms (fun q => b ≤ q)) cells slots pc L st w
section AM
variable {Tt : List Cond} {cl : List vw_C} {l : Launch} {D : va_G} {tc : Nat → ClassId} {b : Nat} {own host : String} {cc : ByteArray} {nL : Nat} {ret : Option FieldType} {ini : am_I} {R : Room} {mc ms : Nat} {post : Option Value → am_W → Prop} {QQ : List Frame → Array Value → State → State → Prop} {cells slots pc : Nat} {L : am_O} {st : List Value} {w : am_W} {tab : List am_T}
/-- a field that the tables link -/
theorem am_fl_inv {idx a k : Nat} (h : am_fl Tt cl own host idx a k = true) : ∃ C T N, cl[a]? = some (C, T, N) ∧ k < N ∧ (Cond.fieldLink own idx (T k).1 (T k).2.1 (T k).2.2.1 ∈ Tt ∨ Cond.fieldLinkNest own idx (T k).1 (T k).2.1 (T k).2.2.1 host ∈ Tt) := by
  unfold am_fl at h
  split at h
  next q hq =>
    obtain ⟨C, T, N⟩ := q
    simp only [Bool.and_eq_true, Bool.or_eq_true, decide_eq_true_eq] at h
    exact ⟨C, T, N, hq, Nat.blt_eq.mp h.1, h.2⟩
  · cases h
/-- what the tables say of a field of that kind -/
theorem am_kd_inv {a k d : Nat} {C : String} {T : u_T} {N : Nat} (hc : cl[a]? = some (C, T, N)) (h : am_kd cl own a k d = true) : ∃ ty, parseFieldDescriptor (T k).2.2.1 = some ty ∧
    (((T k).2.2.2 = false ∧ ((d = 0 ∧ ty = .int) ∨ (d = 1 ∧ ty = .boolean) ∨ (d = 2 ∧ ((∃ x, ty = .object x) ∨ ∃ x, ty = .array x)))) ∨
     ((T k).2.2.2 = true ∧ (T k).1 = own ∧ ((d = 10 ∧ ty = .int) ∨ (d = 11 ∧ ty = .boolean) ∨ (d = 12 ∧ ((∃ x, ty = .object x) ∨ ∃ x, ty = .array x))))) := by
  unfold am_kd at h
  rw [hc] at h
  dsimp only at h
  split at h
  all_goals (try (cases h; done))
  all_goals rename_i h1 h2
  all_goals refine ⟨_, h1, ?_⟩
  · exact Or.inl ⟨h2, Or.inl ⟨Nat.eq_of_beq_eq_true h, rfl⟩⟩
  · exact Or.inl ⟨h2, Or.inr (Or.inl ⟨Nat.eq_of_beq_eq_true h, rfl⟩)⟩
  · exact Or.inl ⟨h2, Or.inr (Or.inr ⟨Nat.eq_of_beq_eq_true h, Or.inl ⟨_, rfl⟩⟩)⟩
  · exact Or.inl ⟨h2, Or.inr (Or.inr ⟨Nat.eq_of_beq_eq_true h, Or.inr ⟨_, rfl⟩⟩)⟩
  all_goals simp only [Bool.and_eq_true, decide_eq_true_eq] at h
  · exact Or.inr ⟨h2, h.2, Or.inl ⟨Nat.eq_of_beq_eq_true h.1, rfl⟩⟩
  · exact Or.inr ⟨h2, h.2, Or.inr (Or.inl ⟨Nat.eq_of_beq_eq_true h.1, rfl⟩)⟩
  · exact Or.inr ⟨h2, h.2, Or.inr (Or.inr ⟨Nat.eq_of_beq_eq_true h.1, Or.inl ⟨_, rfl⟩⟩)⟩
  · exact Or.inr ⟨h2, h.2, Or.inr (Or.inr ⟨Nat.eq_of_beq_eq_true h.1, Or.inr ⟨_, rfl⟩⟩)⟩
/-- the heap behind a cell's change -/
theorem am_H.set {H H1 : Heap} (h : am_H cl D tc b w H) {o : Nat} {e0 e1 : am_E} (ho : w[o]? = some e0) (he : va_at D cl (b + o, am_e tc b e1) H1) (z : H1.size = H.size) (oq : ∀ q : Nat, q ≠ b + o → H1[q]? = H[q]?) : am_H cl D tc b (w.set o e1) H1 := by
  refine ⟨by rw [z, h.1, List.length_set], ?_⟩
  rw [am_w_set]
  exact h.2.set (am_D tc b w) (am_w_some ho) he oq
section AMP
variable {p : Program} {e : Env} {s : State} {m : MethodId} {args : Array Value} {below : List Frame} {meth : Method} {c : Code} {H : Heap} {locs : List Loc} {Q : State → Prop} {ls : Array Slot}
/-- a field of an object of the world is written -/
theorem am_putf (hcl : am_cl Tt cl) (C : am_C Tt cl D tc b own cc nL ret ini p s m args meth c) (hH : am_H cl D tc b w H) (hS : va_S (fun q => b ≤ q) s.heap H locs) {o a k idx : Nat} {fs : List Value} {C' : String} {T : u_T} {N : Nat} (ho : w[o]? = some (.inr (a, fs))) (hc : cl[a]? = some (C', T, N)) (hk : k < N) (hkl : k < fs.length)
    (hl : Cond.fieldLink own idx (T k).1 (T k).2.1 (T k).2.2.1 ∈ Tt ∨ Cond.fieldLinkNest own idx (T k).1 (T k).2.1 (T k).2.2.1 host ∈ Tt) {ty : FieldType} (hd : parseFieldDescriptor (T k).2.2.1 = some ty) {v : Value} (hn : narrow ty (am_v b v) = am_v b v) (hf : fits ty (am_v b v) = true) (hfin : (T k).2.2.2 = false)
    {r : List Value} (hdg : decode cc pc = .ok (.putfield idx, 3)) (kk : ∀ (H1 : Heap) (locs1 : List Loc), am_H cl D tc b (w.set o (.inr (a, fs.set k v))) H1 → va_S (fun q => b ≤ q) s.heap H1 locs1 → W p l e R s m args below meth c H1 locs1 cells slots Q (F0 m (pc + 3) ls r)) :
    W p l e R s m args below meth c H locs cells slots Q (F0 m pc ls (am_v b v :: .ref (b + o) :: r)) := by
  obtain ⟨hexec, hb, hml, hr, hin, hlk, hown, hts, hK, hbs⟩ := id C
  obtain ⟨hws, ⟨ty0, hty⟩, hnm⟩ := hcl a _ hc
  have hap := va_apart (own := own) hts hws ty0 hty hnm hK.1 hc
  have he := am_w_some (tc := tc) (b := b) ho
  obtain ⟨r', h1, cell, q1, q2, q3, q4⟩ := hH.2 o _ he
  have hr : r' = (C', T, N) := Option.some.inj (h1.symm.trans hc)
  subst hr
  obtain ⟨hS2, hfc, kC, hkC, hkind⟩ := hK.1.1 a _ hc
  obtain ⟨cf, kf, fi, f, hi, hsl⟩ := hS2 k hk
  have hlay := hts _ (hws _ (u_in_lay hk))
  unfold u_lay at hlay
  rw [if_neg (by rw [hfin]; decide)] at hlay
  have hst := (u_facts hfc hkC (u_lays hts hws hk) hi).1
  have h6 := u_store hfc hkC hkind hlay hi hd hn hf
  have fin : ∀ H1 : Heap, H1[b + o]? = some (cell.setSlot f.slot (am_v b v)) → H1.size = H.size → (∀ q, q ≠ b + o → H1[q]? = H[q]?) → W p l e R s m args below meth c H1 (locs ++ [⟨b + o, f.slot⟩]) cells slots Q (F0 m (pc + 3) ls r) := by
    intro H1 e1 e2 e3
    rw [hsl] at e1 ⊢
    refine kk H1 _ (hH.set ho ?_ e2 e3) (hS.put e2 e3 (Nat.le_add_right b o))
    refine ⟨_, hc, t_OB.to (V := updV (vp_V (fs.map (am_v b))) k (am_v b v)) ⟨_, e1, q2, q3, t_set q4 hap hk (am_v b v)⟩ (fun j _ => ?_)⟩
    rw [vp_updV_set (by simpa using hkl)]
    show vp_V _ j = vp_V ((fs.set k v).map (am_v b)) j
    rw [List.map_set]
  rcases hl with hl | hl
  · exact W.putK hexec hb (f := f) ⟨hown, hts _ (am_B_in hl rfl), ⟨_, _, _, hi⟩, hst⟩ (by rw [q2]; exact h6) q1 q3 (by rw [hsl]; exact k2_hasslot (q4 k hk)) rfl rfl hdg fin
  · exact va_WputK hexec hb (f := f) hown (va_tabs rfl rfl (hK.2 _ hl rfl)) hi hst (by rw [q2]; exact h6) q1 q3 (by rw [hsl]; exact k2_hasslot (q4 k hk)) rfl rfl hdg fin
/-- a final field, in the constructor -/
theorem am_putF (hcl : am_cl Tt cl) (hi : ini.1 = true) (C : am_C Tt cl D tc b own cc nL ret ini p s m args meth c) (hH : am_H cl D tc b w H) (hS : va_S (fun q => b ≤ q) s.heap H locs) {o a k idx : Nat} {fs : List Value} {C' : String} {T : u_T} {N : Nat} (ho : w[o]? = some (.inr (a, fs))) (hc : cl[a]? = some (C', T, N)) (hk : k < N) (hkl : k < fs.length)
    (hl : Cond.fieldLink own idx (T k).1 (T k).2.1 (T k).2.2.1 ∈ Tt) {ty : FieldType} (hd : parseFieldDescriptor (T k).2.2.1 = some ty) {v : Value} (hn : narrow ty (am_v b v) = am_v b v) (hf : fits ty (am_v b v) = true) (hfin : (T k).2.2.2 = true) (hdecl : (T k).1 = own)
    {r : List Value} (hdg : decode cc pc = .ok (.putfield idx, 3)) (kk : ∀ (H1 : Heap) (locs1 : List Loc), am_H cl D tc b (w.set o (.inr (a, fs.set k v))) H1 → va_S (fun q => b ≤ q) s.heap H1 locs1 → W p l e R s m args below meth c H1 locs1 cells slots Q (F0 m (pc + 3) ls r)) :
    W p l e R s m args below meth c H locs cells slots Q (F0 m pc ls (am_v b v :: .ref (b + o) :: r)) := by
  obtain ⟨hexec, hb, hml, hr, hin, hlk, hown, hts, hK, hbs⟩ := id C
  obtain ⟨hws, ⟨ty0, hty⟩, hnm⟩ := hcl a _ hc
  have hap := va_apart (own := own) hts hws ty0 hty hnm hK.1 hc
  have he := am_w_some (tc := tc) (b := b) ho
  obtain ⟨r', h1, cell, q1, q2, q3, q4⟩ := hH.2 o _ he
  have hr : r' = (C', T, N) := Option.some.inj (h1.symm.trans hc)
  subst hr
  obtain ⟨hS2, hfc, kC, hkC, hkind⟩ := hK.1.1 a _ hc
  obtain ⟨cf, kf, fi, f, hi', hsl⟩ := hS2 k hk
  have hlay := hts _ (hws _ (u_in_lay hk))
  unfold u_lay at hlay
  rw [if_pos hfin] at hlay
  have hst := (u_facts hfc hkC (u_lays hts hws hk) hi').1
  have hcf : m.cls = cf := by
    obtain ⟨_, _, c', _, _, _, -, -, hf', -, -, -, hown2, -⟩ := Cond.laysFinal_spec hlay
    have e1 : c' = cf := by have := hi'.symm.trans hf'; simp at this; exact this.1.symm
    rw [hdecl] at hown2
    rw [← e1]; exact Option.some.inj (hown.symm.trans hown2)
  have h6 := u_fits hfc hkC hkind (Or.inr hlay) hi' hd hn hf
  refine W.putFinK hexec hb hown (hts _ (am_B_in hl rfl)) hi' hst hcf (hin hi) (by rw [q2]; exact h6) q1 q3 (by rw [hsl]; exact k2_hasslot (q4 k hk)) rfl rfl hdg fun H1 e1 e2 e3 => ?_
  rw [hsl] at e1 ⊢
  refine kk H1 _ (hH.set ho ?_ e2 e3) (hS.put e2 e3 (Nat.le_add_right b o))
  refine ⟨_, hc, t_OB.to (V := updV (vp_V (fs.map (am_v b))) k (am_v b v)) ⟨_, e1, q2, q3, t_set q4 hap hk (am_v b v)⟩ (fun j _ => ?_)⟩
  rw [vp_updV_set (by simpa using hkl)]
  show vp_V _ j = vp_V ((fs.set k v).map (am_v b)) j
  rw [List.map_set]
end AMP
theorem am_s (hcl : am_cl Tt cl) (hM : am_ok Tt cl own host cc tab) {pc' : Nat} {L' : am_O} {st' : List Value} {w' : am_W} (h : am_step tab pc L st w = some (pc', L', st', w'))
    (kk : am_RQ Tt cl l D tc b own cc nL ret ini R QQ cells slots pc' L' st' w') : am_RQ Tt cl l D tc b own cc nL ret ini R QQ cells slots pc L st w := by
  intro p e s m args below meth c H locs ls C hH hS hL
  unfold am_step at h
  split at h
  next pc0 i nxt a k d cst hf =>
    have hpc : pc0 = pc := (am_find_inv hf).2
    subst hpc
    obtain ⟨hd, hn, hx⟩ := am_ok_at hM hf
    obtain ⟨hexec, hb, hml, hr, hin, hlk, hown, hts, hK, hbs⟩ := id C
    cases i <;> (try (simp only [am_ex] at h; cases h; done)) <;> simp only [am_ex] at h <;> simp only [am_xb, am_len] at hx hn hd
    case iconst n =>
      cases h
      subst hn
      exact lv_iconst hexec hb hd (eq_of_beq hx) (kk p e s m args below meth c H locs _ C hH hS hL)
    case bipush n =>
      cases h
      subst hn
      exact lv_bipush hexec hb hd (eq_of_beq hx) (kk p e s m args below meth c H locs _ C hH hS hL)
    case sipush n =>
      cases h
      subst hn
      exact lv_sipush hexec hb hd (eq_of_beq hx) (kk p e s m args below meth c H locs _ C hH hS hL)
    case ldc n =>
      cases h
      subst hn
      exact lv_ldc hexec hb hown (hts _ (am_B_in (of_decide_eq_true hx) rfl)) hd (kk p e s m args below meth c H locs _ C hH hS hL)
    case iload_n j =>
      obtain ⟨x, hj, h⟩ := am_li_inv h
      cases h
      subst hn
      exact lv_iload_n hexec hb hd rfl (hL.at hj) (kk p e s m args below meth c H locs _ C hH hS hL)
    case aload_n j =>
      obtain ⟨x, hj, h⟩ := am_lr_inv h
      cases h
      subst hn
      exact lv_aload_n hexec hb hd rfl (hL.at hj) (kk p e s m args below meth c H locs _ C hH hS hL)
    case iload j =>
      obtain ⟨x, hj, h⟩ := am_li_inv h
      cases h
      subst hn
      exact lv_iload hexec hb hd (hL.at hj) (kk p e s m args below meth c H locs _ C hH hS hL)
    case aload j =>
      obtain ⟨x, hj, h⟩ := am_lr_inv h
      cases h
      subst hn
      exact lv_aload hexec hb hd (hL.at hj) (kk p e s m args below meth c H locs _ C hH hS hL)
    case istore_n j =>
      obtain ⟨x, r, rfl, h⟩ := am_i1_inv h
      obtain ⟨hj, h⟩ := am_put_inv h
      cases h
      subst hn
      exact lv_istore_n hexec hb hd rfl hL.1 (Nat.lt_of_lt_of_le hj hL.2.1) rfl (fun ls' hl' => (kk p e s m args below meth c H locs ls' C hH hS (hL.set (v := .int x) rfl hl')))
    case astore_n j =>
      obtain ⟨x, r, rfl, h⟩ := am_r1_inv h
      obtain ⟨hj, h⟩ := am_put_inv h
      cases h
      subst hn
      exact lv_astore_n hexec hb hd rfl hL.1 (Nat.lt_of_lt_of_le hj hL.2.1) rfl (fun ls' hl' => (kk p e s m args below meth c H locs ls' C hH hS (hL.set (v := .ref x) rfl hl')))
    case istore j =>
      obtain ⟨x, r, rfl, h⟩ := am_i1_inv h
      obtain ⟨hj, h⟩ := am_put_inv h
      cases h
      subst hn
      exact lv_istore hexec hb hd hL.1 (Nat.lt_of_lt_of_le hj hL.2.1) rfl (fun ls' hl' => (kk p e s m args below meth c H locs ls' C hH hS (hL.set (v := .int x) rfl hl')))
    case astore j =>
      obtain ⟨x, r, rfl, h⟩ := am_r1_inv h
      obtain ⟨hj, h⟩ := am_put_inv h
      cases h
      subst hn
      exact lv_astore hexec hb hd hL.1 (Nat.lt_of_lt_of_le hj hL.2.1) rfl (fun ls' hl' => (kk p e s m args below meth c H locs ls' C hH hS (hL.set (v := .ref x) rfl hl')))
    case iinc j n =>
      obtain ⟨x, hj, h⟩ := am_li_inv h
      obtain ⟨hj2, h⟩ := am_put_inv h
      cases h
      subst hn
      obtain ⟨q, hq⟩ := am_lp_at (b := b) hj
      exact lv_iinc (v := x + cst) hexec hb hd hL.1 hq (by rw [← eq_of_beq hx]) (Nat.lt_of_lt_of_le hj2 hL.2.1) rfl (fun ls' hl' => (kk p e s m args below meth c H locs ls' C hH hS (hL.set (v := .int (x + cst)) rfl hl')))
    case iadd =>
      obtain ⟨x, y, r, rfl, h⟩ := am_i2_inv h
      cases h
      subst hn
      exact lv_iadd hexec hb hd (kk p e s m args below meth c H locs _ C hH hS hL)
    case isub =>
      obtain ⟨x, y, r, rfl, h⟩ := am_i2_inv h
      cases h
      subst hn
      exact lv_isub hexec hb hd (kk p e s m args below meth c H locs _ C hH hS hL)
    case imul =>
      obtain ⟨x, y, r, rfl, h⟩ := am_i2_inv h
      cases h
      subst hn
      exact lv_imul hexec hb hd (kk p e s m args below meth c H locs _ C hH hS hL)
    case iand =>
      obtain ⟨x, y, r, rfl, h⟩ := am_i2_inv h
      cases h
      subst hn
      exact lv_iand hexec hb hd (kk p e s m args below meth c H locs _ C hH hS hL)
    case ior =>
      obtain ⟨x, y, r, rfl, h⟩ := am_i2_inv h
      cases h
      subst hn
      exact lv_ior hexec hb hd (kk p e s m args below meth c H locs _ C hH hS hL)
    case ixor =>
      obtain ⟨x, y, r, rfl, h⟩ := am_i2_inv h
      cases h
      subst hn
      exact lv_ixor hexec hb hd (kk p e s m args below meth c H locs _ C hH hS hL)
    case ishl =>
      obtain ⟨x, y, r, rfl, h⟩ := am_i2_inv h
      cases h
      subst hn
      exact lv_ishl hexec hb hd (kk p e s m args below meth c H locs _ C hH hS hL)
    case ishr =>
      obtain ⟨x, y, r, rfl, h⟩ := am_i2_inv h
      cases h
      subst hn
      exact lv_ishr hexec hb hd (kk p e s m args below meth c H locs _ C hH hS hL)
    case iushr =>
      obtain ⟨x, y, r, rfl, h⟩ := am_i2_inv h
      cases h
      subst hn
      exact lv_iushr hexec hb hd rfl (kk p e s m args below meth c H locs _ C hH hS hL)
    case ineg =>
      obtain ⟨x, r, rfl, h⟩ := am_i1_inv h
      cases h
      subst hn
      exact lv_ineg hexec hb hd (kk p e s m args below meth c H locs _ C hH hS hL)
    case i2b =>
      obtain ⟨x, r, rfl, h⟩ := am_i1_inv h
      cases h
      subst hn
      exact lv_i2b hexec hb hd rfl (kk p e s m args below meth c H locs _ C hH hS hL)
    case i2l =>
      obtain ⟨x, r, rfl, h⟩ := am_i1_inv h
      cases h
      subst hn
      exact lv_i2l hexec hb hd rfl (kk p e s m args below meth c H locs _ C hH hS hL)
    case dup =>
      obtain ⟨v, r, rfl, hv, h⟩ := am_c1_inv h
      cases h
      subst hn
      exact lv_dup hexec hb hd ((am_v_cat b v).trans hv) (kk p e s m args below meth c H locs _ C hH hS hL)
    case pop =>
      obtain ⟨v, r, rfl, hv, h⟩ := am_c1_inv h
      cases h
      subst hn
      exact lv_pop hexec hb hd ((am_v_cat b v).trans hv) (kk p e s m args below meth c H locs _ C hH hS hL)
    case goto off =>
      cases h
      exact lv_goto hexec hb hd (of_decide_eq_true hx) (kk p e s m args below meth c H locs _ C hH hS hL)
    case getfield idx =>
      obtain ⟨o, r, rfl, h⟩ := am_r1_inv h
      obtain ⟨fs, ho, h⟩ := am_ob_inv h
      obtain ⟨v, hv, h⟩ := am_fd_inv h
      cases h
      subst hn
      obtain ⟨C', T, N, hc, hk, hl⟩ := am_fl_inv hx
      obtain ⟨hws, -, -⟩ := hcl a _ hc
      have he := am_w_some (tc := tc) (b := b) ho
      have hv' : (fs.map (am_v b))[k]? = some (am_v b v) := by rw [List.getElem?_map, hv]; rfl
      rcases hl with hl | hl
      · exact va_get hexec hb hts hws hown hK.1 hH.2 o he hc k hk (hts _ (am_B_in hl rfl)) (fun _ q => q) hv' hd (kk p e s m args below meth c H locs _ C hH hS hL)
      · exact va_getN hexec hb hts hws hown hK.1 hH.2 o he hc k hk (va_tabs rfl rfl (hK.2 _ hl rfl)) (fun _ q => q) hv' hd (kk p e s m args below meth c H locs _ C hH hS hL)
    case putfield idx =>
      obtain ⟨v, o, r, rfl, h, hv⟩ := am_vr_inv h
      obtain ⟨fs, ho, h⟩ := am_ob_inv h
      obtain ⟨hkl, h⟩ := am_put_inv h
      obtain ⟨-, h⟩ := am_put_inv h
      cases h
      subst hn
      rw [Bool.and_eq_true] at hx
      obtain ⟨C', T, N, hc, hk, hl⟩ := am_fl_inv hx.1
      obtain ⟨ty, hty, hq⟩ := am_kd_inv hc hx.2
      have hq : (T k).2.2.2 = false ∧ narrow ty (am_v b v) = am_v b v ∧ fits ty (am_v b v) = true := by
        rcases hv with ⟨rfl, x, rfl⟩ | ⟨rfl, x, rfl⟩
        · rcases hq with ⟨h0, ⟨-, rfl⟩ | ⟨h1, -⟩ | ⟨h1, -⟩⟩ | ⟨-, -, ⟨h1, -⟩ | ⟨h1, -⟩ | ⟨h1, -⟩⟩
          · exact ⟨h0, rfl, rfl⟩
          all_goals omega
        · rcases hq with ⟨h0, ⟨h1, -⟩ | ⟨h1, -⟩ | ⟨-, ⟨y, rfl⟩ | ⟨y, rfl⟩⟩⟩ | ⟨-, -, ⟨h1, -⟩ | ⟨h1, -⟩ | ⟨h1, -⟩⟩
          · omega
          · omega
          · exact ⟨h0, rfl, rfl⟩
          · exact ⟨h0, rfl, rfl⟩
          all_goals omega
      exact am_putf hcl C hH hS ho hc hk hkl hl hty hq.2.1 hq.2.2 hq.1 hd (fun H1 locs1 hH1 hS1 => kk p e s m args below meth c H1 locs1 _ C hH1 hS1 hL)
  · cases h
end AM
