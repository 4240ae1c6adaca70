/-! ===== a method that throws ===== -/
section TH
variable {p : Program} {l : Launch} {e : Env} {R : Room} {s : State} {m : MethodId} {args : Array Value} {below : List Frame} {meth : Method} {c : Code} {T : State} {locs : List Loc} {cells slots : Nat}
theorem th_isRef {C n d : String} {A : Nat → Prop} {U : State} {args : Array Value} (h : va_Zq C n d A U U.heap) : (Cond.isRef (.static C n d)).before args U = true := by
  rcases h with h | ⟨t, h⟩
  · obtain ⟨cf, kf, fi, f, a, cell, h1, h2, h3, h4, h5, h6, h7, -⟩ := h
    simp [Cond.before, Cond.holds, Cond.value, Term.eval, State.fieldNamed?, h1, h2, h4, h5, h6, h7, Value.isRef]
  · obtain ⟨cf, kf, fi, f, a, cell, h1, h2, h3, h4, h5, h6, h7, -⟩ := h
    simp [Cond.before, Cond.holds, Cond.value, Term.eval, State.fieldNamed?, h1, h2, h4, h5, h6, h7, Value.isRef]
/-- the state that a method began with, but with the heap as it is now -/
def th_now (s T : State) : State := { s with heap := T.heap, slotsUsed := T.slotsUsed }
theorem th_base (X : Stand p l e R s m args below meth c T locs cells slots) {R' : Room} (h1 : R'.frames = R.frames) (h2 : R'.locals = R.locals) (h3 : cells + R'.cells ≤ R.cells) (h4 : slots + R'.slots ≤ R.slots) : Stand p l e R' (th_now s T) m args below meth c T [] 0 0 := by
  have hr := X.room
  have hb := X.book
  have hs := X.heapSize
  have hu := X.used
  refine ⟨X.admits, X.cas, X.clock, X.frames, ?_, X.hears, X.method, X.code, X.here, X.tail, X.warmed, X.limits, X.bytes, ?_⟩
  · simp only [State.hasRoom, Bool.and_eq_true, decide_eq_true_eq] at hr ⊢
    obtain ⟨⟨⟨⟨a1, a2⟩, a3⟩, a4⟩, a5⟩ := hr
    refine ⟨⟨⟨⟨?_, ?_⟩, ?_⟩, ?_⟩, ?_⟩
    · rw [h2]; exact a1
    · rw [h1, h2]; exact a2
    · show T.heap.size + _ ≤ _
      omega
    · show T.slotsUsed + _ ≤ _
      omega
    · exact hb
  · obtain ⟨q1, -⟩ := X.same
    refine ⟨?_, Nat.le_refl _, Nat.le_refl _, ?_, ?_, fun a x hx => ⟨x, hx, rfl, rfl, fun _ _ => rfl⟩⟩
    · exact q1
    · show T.slotsUsed = T.slotsUsed + _
      rw [List.drop_eq_nil_of_le (by simp [th_now, State.setVm])]; rfl
    · rw [List.drop_eq_nil_of_le (by simp [th_now, State.setVm])]; exact Nat.le_refl _
/-- nothing that was there has changed -/
theorem th_same {u t : State} {k n : Nat} (h : u.sameButNew t [] k n) {q : Nat} (hq : q < u.heap.size) : t.heap[q]? = u.heap[q]? := by
  obtain ⟨x, hx⟩ : ∃ x, u.heap[q]? = some x := ⟨_, Array.getElem?_eq_getElem hq⟩
  obtain ⟨y, hy, e1, e2, e3⟩ := h.2.2.2.2.2 q x hx
  rw [hx, hy, e1]
  congr 1
  have : y.slots = x.slots := by
    apply Array.ext_getElem?
    intro i
    exact e3 i (by simp)
  rw [this]
/-- a word of the tables holds whatever the heap is -/
theorem th_word {w : Cond} {a' : Array Value} (hw : goodWord w = true) (h : w.before args s = true) : w.before a' (th_now s T) = true := word_at (s := s) (U := th_now s T) (State.WarmedH.refl s) (good_of_word hw) h
end TH
/-- a method's end: it returns, or it throws the object at this place of the world -/
def th_Q (cl : List vw_C) (D : va_G) (tc : Nat → ClassId) (b : Nat) (post : Option Value → am_W → Prop) (pt : Nat → am_W → Prop) (mc ms : Nat) : List Frame → Array Value → State → State → Prop := fun below args s t =>
  MQ below (am_Q cl D tc b post) args s mc ms (fun q => b ≤ q) t ∨ (t.status = .running ∧ ∃ (k : Nat) (w : am_W), Ended t below (.threw (b + k)) ∧ pt k w ∧ am_H cl D tc b w t.heap ∧ va_F (fun q => b ≤ q) s t ∧ s.WarmedH t.vm ∧ ∃ L, s.sameButNew ({ t with vm := s.vm } : State) L mc ms ∧ ∀ q ∈ L, b ≤ q.base)
section THR
variable {Tt : List Cond} {cl : List vw_C} {l : Launch} {D : va_G} {tc : Nat → ClassId} {b : Nat} {own host : String} {cc : ByteArray} {nL : Nat} {ret : Option FieldType} {ini : am_I} {R : Room} {mc ms : Nat} {post : Option Value → am_W → Prop} {pt : Nat → am_W → Prop} {cells slots pc : Nat} {L : am_O} {w : am_W}
set_option maxHeartbeats 1000000 in
/-- new, dup, ldc of a text, the constructor, athrow: it throws -/
theorem am_thr (hl : ∀ e : Env, l.admits e → e.platform.stackTraces = false) {X : String} {names : List String} (hX : Bundle.fit X = true) (hnm : ∀ n ∈ names, Bundle.fit n = true) {idx ic is ci : Nat} {tx : String} {T0 : u_T}
    (hat : ∀ a ∈ Bundle.ownAtoms own ic X names, (a ∈ Tt ∧ (goodWord a = true ∨ (am_isN a = true ∧ a.onTables = true))) ∨ a = .laysStatic "java/lang/Throwable" "UNASSIGNED_STACK" "[Ljava/lang/StackTraceElement;" ∨ a = .laysStatic "java/lang/Throwable" "SUPPRESSED_SENTINEL" "Ljava/util/List;" ∨ a = .isRef (.static "java/lang/Throwable" "UNASSIGNED_STACK" "[Ljava/lang/StackTraceElement;") ∨ a = .isRef (.static "java/lang/Throwable" "SUPPRESSED_SENTINEL" "Ljava/util/List;"))
    (hin : Cond.instantiable X 6 ∈ Tt) (hlk : Cond.classLink own idx X ∈ Tt) (hini : Cond.initialized X ∈ Tt) (hst : Cond.stringRef own is tx ∈ Tt) (hci : cl[ci]? = some (X, T0, 0)) (hhh : ini.2 = [])
    (d1 : decode cc pc = .ok (.new idx, 3)) (d2 : decode cc (pc + 3) = .ok (.dup, 1)) (d3 : decode cc (pc + 3 + 1) = .ok (.ldc is, 2)) (d4 : decode cc (pc + 3 + 1 + 2) = .ok (.invokespecial ic, 3)) (d5 : decode cc (pc + 3 + 1 + 2 + 3) = .ok (.athrow, 1))
    (hro : names.length + 3 < R.frames ∧ 1 + (13 * (names.length + 1) + 42) ≤ R.locals) (hcs : cells + 1 ≤ R.cells ∧ slots + 6 ≤ R.slots) (hmc : cells + 1 ≤ mc ∧ slots + 6 ≤ ms)
    (hp : pt w.length (w ++ [.inr (ci, [])])) : am_RQ Tt cl l D tc b own cc nL ret ini R (th_Q cl D tc b post pt mc ms) cells slots pc L [] w := by
  intro p e s m args below meth c H locs ls C hH hS hL
  obtain ⟨hexec, hb, hml, hrt, hin0, hlk0, hown, hts, hK, hbs, hZ, hex⟩ := id C
  intro T hT X0
  have hKn := hK.1.1 ci _ hci
  obtain ⟨-, hfc, -⟩ := hKn
  obtain ⟨_, _, _, q, _, _, _, _, _, hev⟩ := Cond.stringRef_spec hown (hK.2 _ hst rfl)
  have hvk : vk_R own is tx q (th_now s T) := vk_R.same (u := s) rfl ⟨hK.2 _ hst rfl, hev⟩
  have hw : ∀ w ∈ am_B Tt, w.before args (th_now s T) = true := fun w hw => th_word (List.mem_filter.mp hw).2 (hts w hw)
  have hZ' : am_Z b (th_now s T) := hZ.next (U := th_now s T) (Vm.Alike.refl s.vm) (by show va_S _ s.heap T.heap locs; rw [hT]; exact hS)
  have hX1 := th_base X0 (R' := { R with cells := R.cells - cells, slots := R.slots - slots }) rfl rfl (by show cells + (R.cells - cells) ≤ R.cells; omega) (by show slots + (R.slots - slots) ≤ R.slots; omega)
  have hsz : T.heap.size = b + w.length := by rw [hT]; exact hH.1
  suffices h : W p l e { R with cells := R.cells - cells, slots := R.slots - slots } (th_now s T) m args below meth c T.heap [] 0 0 (th_Q cl D tc b post pt mc ms below args s) (F0 m pc ls ([].map (am_v b))) from h T rfl hX1
  have hown' : (th_now s T).vm.findClass own = some m.cls := hown
  refine W.newcK hexec hb hown' (hw _ (am_B_in hlk rfl)) (hw _ (am_B_in hin rfl)) (hw _ (am_B_in hini rfl)) rfl d1 (by show 0 + 1 ≤ R.cells - cells; omega) (by show 0 + 6 ≤ R.slots - slots; omega) (cC := D.1 ci) hfc rfl fun H1 kC hkC e1 z1 o1 => ?_
  refine lv_dup hexec hb d2 rfl ?_
  refine va_ldcS hexec hb hown' hvk d3 ?_
  intro T2 hT2 X2
  have hat' : ∀ a ∈ Bundle.ownAtoms own ic X names, a.before args (th_now s T) = true := by
    intro a ha
    rcases hat a ha with ⟨h1, h2 | ⟨h2, h3⟩⟩ | rfl | rfl | rfl | rfl
    · exact hw a (am_B_in h1 h2)
    · exact va_tabs (A := #[]) (u := s) (U := th_now s T) h3 rfl (hK.2 a h1 h2)
    · exact hZ'.1.2
    · exact hZ'.2.2
    · exact th_isRef hZ'.1.1
    · exact th_isRef hZ'.2.1
  have hout : ∀ x ∈ c.exceptionTable.toList, covers x (pc + 3 + 1 + 2 + 3) = false := by
    intro x hx
    rw [hhh] at hex
    have := List.map_eq_nil_iff.mp hex
    rw [this] at hx
    cases hx
  obtain ⟨U, st1, hrun, hend, hW, hsame, ce, hce, ow⟩ := X2.ctorThrowS hexec (hl e X2.admits) hown' hX hnm hat' (fun x hx => by cases hx) (a := T.heap.size) (cX := D.1 ci) (kX := kC) hfc hkC (by rw [hT2]; exact e1) (Nat.le_refl _) (msg := .ref q) rfl
    (g := F0 m (pc + 3 + 1 + 2) ls [.ref q, .ref T.heap.size, .ref T.heap.size]) rfl (hL.1.1.trans hml.symm) rfl rfl (rest := []) rfl (by rw [hb]; exact d4) (by rw [hb]; exact d5) hout hro.1 (by have h9 := hro.2; simp [JFrame.monitorRoom, Value.category]; omega) hlk0
  have hk : ∀ q : Nat, q < T.heap.size → U.heap[q]? = T.heap[q]? := fun q hq => th_same hsame hq
  have hlt : T.heap.size < U.heap.size := (Array.getElem?_eq_some_iff.mp hce).1
  have hle : U.heap.size ≤ T.heap.size + (0 + 1) := hsame.2.2.1
  have hHT : am_H cl D tc b w T.heap := by rw [hT]; exact hH
  have hcls : ce.cls = D.1 ci := (Option.some.inj (hfc.symm.trans ow.cls)).symm
  have hnew : va_at D cl (b + w.length, am_e tc b (.inr (ci, []))) U.heap := ⟨_, hci, ce, by rw [← hsz]; exact hce, hcls, ow.vm, fun k hk => absurd hk (Nat.not_lt_zero k)⟩
  have h2 : (T.setVm s.vm).sameButNew ({ U with vm := s.vm } : State) [] (0 + 1) (0 + 6) := by
    refine ⟨?_, hsame.2⟩
    obtain ⟨A, hA⟩ : ∃ A, T.setVm s.vm = ({ s.setFrames A with heap := T.heap, slotsUsed := T.slotsUsed } : State) := ⟨_, X0.same.1⟩
    refine Eq.trans (hsame.1 : ({ U with vm := s.vm } : State) = { (th_now s T).setFrames U.frames with heap := U.heap, slotsUsed := U.slotsUsed }) ?_
    rw [hA]
    show _ = ({ (s.setFrames A).setFrames U.frames with heap := U.heap, slotsUsed := U.slotsUsed } : State)
    rw [State.setFrames_setFrames]
    rfl
  refine ⟨U, st1, Or.inr ⟨hrun, w.length, w ++ [.inr (ci, [])], by rw [← hsz]; exact hend, hp, hHT.push hnew (by omega) hk, ⟨Nat.le_trans (by rw [hT]; exact hS.1) (Nat.le_of_lt hlt), fun q h1 h3 => ?_⟩, hW, locs, ?_, hS.2.2⟩⟩
  · have h4 : q < T.heap.size := Nat.lt_of_lt_of_le h1 (by rw [hT]; exact hS.1)
    rw [hk q h4, hT]
    exact hS.2.1 q h1 h3
  · have := (X0.same.trans h2).mono (c' := mc) (n' := ms) (by omega) (by omega)
    simpa using this
end THR
