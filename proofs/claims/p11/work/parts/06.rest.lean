/-! ===== makings, the library's own, switches ===== -/
/-- what 'new' wants: the link, the class's number of slots, the fields as they begin -/
def am_nb (Tt : List Cond) (cl : List vw_C) (own : String) (idx ci : Nat) (fs : List Value) : Bool := match cl[ci]? with
  | some q => decide (Cond.classLink own idx q.1 ∈ Tt) && decide (Cond.instantiable q.1 q.2.2 ∈ Tt) && decide (Cond.initialized q.1 ∈ Tt) && (List.range q.2.2).all (fun j => match parseFieldDescriptor (q.2.1 j).2.2.1 with
    | some t => decide (defaultValue t = fs.getD j .null)
    | none => false) && fs.all (fun v => match v with
    | .ref _ => false
    | .retAddr _ => false
    | _ => true)
  | none => false
/-- a link to a field of the class itself -/
def am_fo (Tt : List Cond) (cl : List vw_C) (own : String) (idx a k : Nat) : Bool := match cl[a]? with
  | some q => Nat.blt k q.2.2 && decide (Cond.fieldLink own idx (q.2.1 k).1 (q.2.1 k).2.1 (q.2.1 k).2.2.1 ∈ Tt)
  | none => false
def am_at : ArrayType → Nat
  | .byte => 0
  | .int => 1
  | .boolean => 2
  | .long => 3
  | _ => 4
def am_a0 (n : Nat) : Nat → vp_A
  | 3 => (n, .inr (.inl (fun _ => 0)))
  | _ => (n, .inl (fun _ => 0))
def am_mb (Tt : List Cond) (own : String) (idx : Nat) (y : MethodName) (cc : ByteArray) : Bool := decide (Cond.methodLink own idx y ∈ Tt) && decide (Cond.static y ∈ Tt) && decide (Cond.initialized "java/lang/Math" ∈ Tt) && decide (Cond.code y cc 2 (some .int) ∈ Tt)
def am_ob0 (Tt : List Cond) (own : String) (idx : Nat) : Bool := decide (Cond.methodLink own idx Lib.objectInit ∈ Tt) && decide (Cond.instanceMethod Lib.objectInit ∈ Tt) && decide (Cond.code Lib.objectInit ⟨#[0xb1]⟩ 1 none ∈ Tt)
section AMN
variable {Tt : List Cond} {cl : List vw_C} {l : Launch} {D : va_G} {tc : Nat → ClassId} {b : Nat} {own host : String} {cc : ByteArray} {nL : Nat} {ret : Option FieldType} {ini : am_I} {R : Room} {mc ms : Nat} {post : Option Value → am_W → Prop} {QQ : List Frame → Array Value → State → State → Prop} {cells slots pc : Nat} {L : am_O} {st : List Value} {w : am_W} {tab : List am_T}
theorem am_H.push {H H1 : Heap} (h : am_H cl D tc b w H) {e1 : am_E} (he : va_at D cl (b + w.length, am_e tc b e1) H1) (z : H1.size = H.size + 1) (oq : ∀ q : Nat, q < H.size → H1[q]? = H[q]?) : am_H cl D tc b (w ++ [e1]) H1 := by
  refine ⟨by rw [z, h.1, List.length_append]; rfl, ?_⟩
  rw [am_w_push]
  refine (h.2.kept (fun k x hx => oq x.1 ((h.2 k x hx).lt))).app (fun k x hx => ?_)
  have hz : k < 1 := (List.getElem?_eq_some_iff.mp hx).1
  rw [show k = 0 by omega] at hx
  cases hx
  exact he
theorem am_S_push {s : State} {H H1 : Heap} {locs : List Loc} (hS : va_S (fun q => b ≤ q) s.heap H locs) (z : H1.size = H.size + 1) (oq : ∀ q : Nat, q < H.size → H1[q]? = H[q]?) : va_S (fun q => b ≤ q) s.heap H1 locs :=
  ⟨Nat.le_trans hS.1 (by omega), fun x h1 h2 => (oq x (Nat.lt_of_lt_of_le h1 hS.1)).trans (hS.2.1 x h1 h2), hS.2.2⟩
/-- a new object -/
theorem am_nw (hcl : am_cl Tt cl) (hM : am_ok Tt cl own host cc tab) {idx nxt a k d : Nat} {cst : Int32} (hf : am_find tab pc = some (pc, .new idx, nxt, a, k, d, cst)) {ci N q0 : Nat} {fs : List Value} {w' : am_W} (hn : am_nb Tt cl own idx ci fs = true) (hN : (cl[ci]?).map (fun q => q.2.2) = some N) (hw : w ++ [.inr (ci, fs)] = w') (hq : w.length = q0) (hcs : cells + 1 ≤ R.cells ∧ slots + N ≤ R.slots)
    (kk : am_RQ Tt cl l D tc b own cc nL ret ini R QQ (cells + 1) (slots + N) nxt L (.ref q0 :: st) w') : am_RQ Tt cl l D tc b own cc nL ret ini R QQ cells slots pc L st w := by
  intro p e s m args below meth c H locs ls C hH hS hL
  obtain ⟨hd, hnx, -⟩ := am_ok_at hM hf
  obtain ⟨hexec, hb, hml, hrt, hin, hlk, hown, hts, hK, hbs⟩ := id C
  simp only [am_len] at hd hnx
  subst hnx
  subst hw
  subst hq
  unfold am_nb at hn
  obtain ⟨q, hq, rfl⟩ := Option.map_eq_some_iff.mp hN
  obtain ⟨Cn, T, N⟩ := q
  rw [hq] at hn
  simp only [Bool.and_eq_true, decide_eq_true_eq] at hn
  obtain ⟨⟨⟨⟨h1, h2⟩, h3⟩, h4⟩, h5⟩ := hn
  obtain ⟨hws, ⟨ty, hty⟩, -⟩ := hcl ci _ hq
  have hKn := hK.1.1 ci _ hq
  have hfs : fs.map (am_v b) = fs := by
    have : ∀ v ∈ fs, am_v b v = v := by
      intro v hv
      have := List.all_eq_true.mp h5 v hv
      cases v <;> first | rfl | (cases this; done)
    exact (List.map_congr_left this).trans (List.map_id fs)
  refine W.newcK hexec hb hown (hts _ (am_B_in h1 rfl)) (hts _ (am_B_in h2 rfl)) (hts _ (am_B_in h3 rfl)) rfl hd hcs.1 hcs.2 hKn.2.1 rfl fun H1 kC hkC e1 z1 o1 => ?_
  have hz : H.size = b + w.length := hH.1
  refine W.eq (g2 := F0 m (pc + 3) ls ((Value.ref w.length :: st).map (am_v b))) (by rw [hz]; rfl) ?_
  refine kk p e s m args below meth c H1 locs ls C (hH.push ?_ z1 o1) (am_S_push hS z1 o1) hL
  refine ⟨_, hq, ?_⟩
  rw [hz] at e1
  refine (u_born ty hts hws hKn hkC e1 hty).to (fun j hj => ?_)
  have hj2 := List.all_eq_true.mp h4 j (List.mem_range.mpr hj)
  simp only [hty j hj] at hj2
  rw [of_decide_eq_true hj2, hfs]
  rfl
/-- a new array -/
theorem am_na (hM : am_ok Tt cl own host cc tab) {ty : ArrayType} {nxt a k d : Nat} {cst : Int32} (hf : am_find tab pc = some (pc, .newarray ty, nxt, a, k, d, cst)) (hty : Cond.arrayClass (newarray.typeOf ty) ∈ Tt) {n : Int32} {N q0 : Nat} {r : List Value} {w' : am_W} (hst : st = .int n :: r) (ht : Nat.blt (am_at ty) 4 = true) (hn : ¬ n < 0) (hN : n.toNatClampNeg = N) (hb8 : N * 8 ≤ 536870912) (hw : w ++ [.inl (am_at ty, am_a0 N (am_at ty))] = w') (hq : w.length = q0) (hcs : cells + 1 ≤ R.cells ∧ slots + N ≤ R.slots)
    (kk : am_RQ Tt cl l D tc b own cc nL ret ini R QQ (cells + 1) (slots + N) nxt L (.ref q0 :: r) w') : am_RQ Tt cl l D tc b own cc nL ret ini R QQ cells slots pc L st w := by
  intro p e s m args below meth c H locs ls C hH hS hL
  obtain ⟨hd, hnx, -⟩ := am_ok_at hM hf
  obtain ⟨hexec, hb, hml, hrt, hin, hlk, hown, hts, hK, hbs⟩ := id C
  simp only [am_len] at hd hnx
  subst hnx
  subst hw
  subst hq
  subst hst
  have hby : N * componentBytes (newarray.typeOf ty) ≤ 536870912 := by
    refine Nat.le_trans (Nat.mul_le_mul_left N ?_) hb8
    cases ty <;> decide
  refine va_newaK hexec hb (hts _ (am_B_in hty rfl)) rfl hd rfl hn hN hby hcs.1 hcs.2 rfl fun H1 cA e1 z1 o1 hAr hNm => ?_
  have hz : H.size = b + w.length := hH.1
  refine W.eq (g2 := F0 m (pc + 2) ls ((Value.ref w.length :: r).map (am_v b))) (by rw [hz]; rfl) ?_
  refine kk p e s m args below meth c H1 locs ls C (hH.push ?_ z1 o1) (am_S_push hS z1 o1) hL
  show H1[b + w.length]? = some (vp_cell _ _)
  rw [← hz, e1]
  cases ty
  case byte =>
    have hc : tc 0 = cA := Option.some.inj (((hK.1.2 0 _ rfl).2).symm.trans hNm)
    subst hc; rfl
  case int =>
    have hc : tc 1 = cA := Option.some.inj (((hK.1.2 1 _ rfl).2).symm.trans hNm)
    subst hc; rfl
  case boolean =>
    have hc : tc 2 = cA := Option.some.inj (((hK.1.2 2 _ rfl).2).symm.trans hNm)
    subst hc; rfl
  case long =>
    have hc : tc 3 = cA := Option.some.inj (((hK.1.2 3 _ rfl).2).symm.trans hNm)
    subst hc; rfl
  all_goals cases ht
/-- a boolean field -/
theorem am_pz (hcl : am_cl Tt cl) (hM : am_ok Tt cl own host cc tab) {idx nxt a k : Nat} {cst : Int32} (hf : am_find tab pc = some (pc, .putfield idx, nxt, a, k, 1, cst)) {x : Int32} {o : Nat} {r fs : List Value} {w' : am_W} (hst : st = .int x :: .ref o :: r) (hx : x = 0 ∨ x = 1) (ho : am_nth w o = some (.inr (a, fs))) (hw : (am_put fs k (.int x) fun fs' => am_put w o (.inr (a, fs')) fun w' => some w') = some w')
    (kk : am_RQ Tt cl l D tc b own cc nL ret ini R QQ cells slots nxt L r w') : am_RQ Tt cl l D tc b own cc nL ret ini R QQ cells slots pc L st w := by
  intro p e s m args below meth c H locs ls C hH hS hL
  obtain ⟨hd, hnx, hxb⟩ := am_ok_at hM hf
  simp only [am_len, am_xb] at hd hnx hxb
  subst hnx
  subst hst
  rw [Bool.and_eq_true] at hxb
  obtain ⟨C', T, N, hc, hk, hl⟩ := am_fl_inv hxb.1
  obtain ⟨ty, hty, hq⟩ := am_kd_inv hc hxb.2
  obtain ⟨hkl, hw⟩ := am_put_inv hw
  obtain ⟨-, hw⟩ := am_put_inv hw
  cases hw
  have hq : (T k).2.2.2 = false ∧ ty = .boolean := by
    rcases hq with ⟨h0, ⟨h1, -⟩ | ⟨-, rfl⟩ | ⟨h1, -⟩⟩ | ⟨-, -, ⟨h1, -⟩ | ⟨h1, -⟩ | ⟨h1, -⟩⟩
    · omega
    · exact ⟨h0, rfl⟩
    all_goals omega
  obtain ⟨h0, rfl⟩ := hq
  exact am_putf hcl C hH hS (v := .int x) (by rw [← am_nth_eq]; exact ho) hc hk hkl hl hty (by rcases hx with rfl | rfl <;> rfl) (by rcases hx with rfl | rfl <;> rfl) h0 hd (fun H1 locs1 hH1 hS1 => kk p e s m args below meth c H1 locs1 _ C hH1 hS1 hL)
/-- a final field, in its class's constructor: an int or a reference -/
theorem am_pF (hcl : am_cl Tt cl) (hM : am_ok Tt cl own host cc tab) (hini : ini.1 = true) {idx nxt a k d : Nat} {cst : Int32} (hf : am_find tab pc = some (pc, .putfield idx, nxt, a, k, d, cst)) {v : Value} {o : Nat} {r fs : List Value} {w' : am_W} (hst : st = v :: .ref o :: r) (hv : (d = 10 ∧ ∃ x, v = .int x) ∨ (d = 12 ∧ ∃ x, v = .ref x)) (ho : am_nth w o = some (.inr (a, fs))) (hw : (am_put fs k v fun fs' => am_put w o (.inr (a, fs')) fun w' => some w') = some w')
    (hlk : am_fo Tt cl own idx a k = true)
    (kk : am_RQ Tt cl l D tc b own cc nL ret ini R QQ cells slots nxt L r w') : am_RQ Tt cl l D tc b own cc nL ret ini R QQ cells slots pc L st w := by
  intro p e s m args below meth c H locs ls C hH hS hL
  obtain ⟨hd, hnx, hxb⟩ := am_ok_at hM hf
  simp only [am_len, am_xb] at hd hnx hxb
  subst hnx
  subst hst
  rw [Bool.and_eq_true] at hxb
  obtain ⟨C', T, N, hc, hk, hl⟩ : ∃ C T N, cl[a]? = some (C, T, N) ∧ k < N ∧ Cond.fieldLink own idx (T k).1 (T k).2.1 (T k).2.2.1 ∈ Tt := by
    unfold am_fo at hlk
    split at hlk
    next q hq =>
      obtain ⟨C, T, N⟩ := q
      simp only [Bool.and_eq_true, decide_eq_true_eq] at hlk
      exact ⟨C, T, N, hq, Nat.blt_eq.mp hlk.1, hlk.2⟩
    · cases hlk
  obtain ⟨ty, hty, hq⟩ := am_kd_inv hc hxb.2
  obtain ⟨hkl, hw⟩ := am_put_inv hw
  obtain ⟨-, hw⟩ := am_put_inv hw
  cases hw
  have hq : (T k).2.2.2 = true ∧ (T k).1 = own ∧ narrow ty (am_v b v) = am_v b v ∧ fits ty (am_v b v) = true := by
    rcases hv with ⟨rfl, x, rfl⟩ | ⟨rfl, x, rfl⟩
    · rcases hq with ⟨-, ⟨h1, -⟩ | ⟨h1, -⟩ | ⟨h1, -⟩⟩ | ⟨h0, h1, ⟨-, rfl⟩ | ⟨h2, -⟩ | ⟨h2, -⟩⟩
      · omega
      · omega
      · omega
      · exact ⟨h0, h1, rfl, rfl⟩
      all_goals omega
    · rcases hq with ⟨-, ⟨h1, -⟩ | ⟨h1, -⟩ | ⟨h1, -⟩⟩ | ⟨h0, h1, ⟨h2, -⟩ | ⟨h2, -⟩ | ⟨-, ⟨y, rfl⟩ | ⟨y, rfl⟩⟩⟩
      · omega
      · omega
      · omega
      · omega
      · omega
      · exact ⟨h0, h1, rfl, rfl⟩
      · exact ⟨h0, h1, rfl, rfl⟩
  exact am_putF hcl hini C hH hS (v := v) (by rw [← am_nth_eq]; exact ho) hc hk hkl hl hty hq.2.2.1 hq.2.2.2 hq.1 hq.2.1 hd (fun H1 locs1 hH1 hS1 => kk p e s m args below meth c H1 locs1 _ C hH1 hS1 hL)
/-- Math.min, Math.max -/
theorem am_mn (hM : am_ok Tt cl own host cc tab) {idx nxt a k d : Nat} {cst : Int32} (hf : am_find tab pc = some (pc, .invokestatic idx, nxt, a, k, d, cst)) (hw : am_mb Tt own idx Lib.Math.min.name Lib.Math.min.code = true) {x y : Int32} {r : List Value} (hst : st = .int y :: .int x :: r) (hro : Nat.ble 1 R.frames = true ∧ Nat.ble ((r.map fun v => v.category).sum + 13) R.locals = true) (hcs : cells ≤ R.cells ∧ slots ≤ R.slots)
    (kk : am_RQ Tt cl l D tc b own cc nL ret ini R QQ cells slots nxt L (.int (if y < x then y else x) :: r) w) : am_RQ Tt cl l D tc b own cc nL ret ini R QQ cells slots pc L st w := by
  intro p e s m args below meth c H locs ls C hH hS hL
  obtain ⟨hd, hnx, -⟩ := am_ok_at hM hf
  obtain ⟨hexec, hb, hml, hrt, hin, hlk, hown, hts, hK, hbs⟩ := id C
  simp only [am_len] at hd hnx
  subst hnx
  subst hst
  simp only [am_mb, Bool.and_eq_true, decide_eq_true_eq] at hw
  exact va_mmin hexec hb (hml.trans hL.1.1.symm) hown (hts _ (am_B_in hw.1.1.1 rfl)) (hts _ (am_B_in hw.1.1.2 rfl)) (hts _ (am_B_in hw.1.2 rfl)) (hts _ (am_B_in hw.2 rfl)) (Nat.le_of_ble_eq_true hro.1) (by rw [am_cat_sum]; exact Nat.le_of_ble_eq_true hro.2) hcs.1 hcs.2 hd (kk p e s m args below meth c H locs ls C hH hS hL)
theorem am_mx (hM : am_ok Tt cl own host cc tab) {idx nxt a k d : Nat} {cst : Int32} (hf : am_find tab pc = some (pc, .invokestatic idx, nxt, a, k, d, cst)) (hw : am_mb Tt own idx Lib.Math.max.name Lib.Math.max.code = true) {x y : Int32} {r : List Value} (hst : st = .int y :: .int x :: r) (hro : Nat.ble 1 R.frames = true ∧ Nat.ble ((r.map fun v => v.category).sum + 13) R.locals = true) (hcs : cells ≤ R.cells ∧ slots ≤ R.slots)
    (kk : am_RQ Tt cl l D tc b own cc nL ret ini R QQ cells slots nxt L (.int (if x < y then y else x) :: r) w) : am_RQ Tt cl l D tc b own cc nL ret ini R QQ cells slots pc L st w := by
  intro p e s m args below meth c H locs ls C hH hS hL
  obtain ⟨hd, hnx, -⟩ := am_ok_at hM hf
  obtain ⟨hexec, hb, hml, hrt, hin, hlk, hown, hts, hK, hbs⟩ := id C
  simp only [am_len] at hd hnx
  subst hnx
  subst hst
  simp only [am_mb, Bool.and_eq_true, decide_eq_true_eq] at hw
  exact va_mmax hexec hb (hml.trans hL.1.1.symm) hown (hts _ (am_B_in hw.1.1.1 rfl)) (hts _ (am_B_in hw.1.1.2 rfl)) (hts _ (am_B_in hw.1.2 rfl)) (hts _ (am_B_in hw.2 rfl)) (Nat.le_of_ble_eq_true hro.1) (by rw [am_cat_sum]; exact Nat.le_of_ble_eq_true hro.2) hcs.1 hcs.2 hd (kk p e s m args below meth c H locs ls C hH hS hL)
/-- Object's constructor -/
theorem am_oi (hM : am_ok Tt cl own host cc tab) {idx nxt a k d : Nat} {cst : Int32} (hf : am_find tab pc = some (pc, .invokespecial idx, nxt, a, k, d, cst)) (hw : am_ob0 Tt own idx = true) {o : Nat} {r : List Value} (hst : st = .ref o :: r) (hro : Nat.ble 1 R.frames = true ∧ Nat.ble ((r.map fun v => v.category).sum + 12) R.locals = true)
    (kk : am_RQ Tt cl l D tc b own cc nL ret ini R QQ cells slots nxt L r w) : am_RQ Tt cl l D tc b own cc nL ret ini R QQ cells slots pc L st w := by
  intro p e s m args below meth c H locs ls C hH hS hL
  obtain ⟨hd, hnx, -⟩ := am_ok_at hM hf
  obtain ⟨hexec, hb, hml, hrt, hin, hlk, hown, hts, hK, hbs⟩ := id C
  simp only [am_len] at hd hnx
  subst hnx
  subst hst
  simp only [am_ob0, Bool.and_eq_true, decide_eq_true_eq] at hw
  refine W.objInit hexec hb hown (hts _ (am_B_in hw.1.1 rfl)) (hts _ (am_B_in hw.1.2 rfl)) (hts _ (am_B_in hw.2 rfl)) rfl (hL.1.1.trans hml.symm) rfl hd (Nat.le_of_ble_eq_true hro.1) (by rw [am_cat_sum]; show 2 * 0 + _ + 12 ≤ _; have := Nat.le_of_ble_eq_true hro.2; omega) ?_
  exact kk p e s m args below meth c H locs ls C hH hS hL
/-- a switch over a table: outside, and at a place -/
theorem am_so {dflt lo hi : Int} {offs : Array Int} {len tgt : Nat} {x : Int32} {r : List Value} (hd : decode cc pc = .ok (.tableswitch dflt lo hi offs, len)) (hst : st = .int x :: r) (h : x.toInt < lo ∨ hi < x.toInt) (ht : (pc : Int) + dflt = (tgt : Int))
    (kk : am_RQ Tt cl l D tc b own cc nL ret ini R QQ cells slots tgt L r w) : am_RQ Tt cl l D tc b own cc nL ret ini R QQ cells slots pc L st w := by
  intro p e s m args below meth c H locs ls C hH hS hL
  obtain ⟨hexec, hb, -⟩ := id C
  subst hst
  exact lv_tableOut hexec hb hd h ht (kk p e s m args below meth c H locs ls C hH hS hL)
theorem am_si {dflt lo hi : Int} {offs : Array Int} {len tgt : Nat} {x : Int32} {r : List Value} {off : Int} (hd : decode cc pc = .ok (.tableswitch dflt lo hi offs, len)) (hst : st = .int x :: r) (h1 : ¬ x.toInt < lo) (h2 : ¬ hi < x.toInt) (ho : offs[(x.toInt - lo).toNat]? = some off) (ht : (pc : Int) + off = (tgt : Int))
    (kk : am_RQ Tt cl l D tc b own cc nL ret ini R QQ cells slots tgt L r w) : am_RQ Tt cl l D tc b own cc nL ret ini R QQ cells slots pc L st w := by
  intro p e s m args below meth c H locs ls C hH hS hL
  obtain ⟨hexec, hb, -⟩ := id C
  subst hst
  exact lv_tableIn hexec hb hd h1 h2 ho ht (kk p e s m args below meth c H locs ls C hH hS hL)
/-- division -/
theorem am_dv (hM : am_ok Tt cl own host cc tab) {nxt a k d : Nat} {cst : Int32} (hf : am_find tab pc = some (pc, .idiv, nxt, a, k, d, cst)) {x y : Int32} {r : List Value} (hst : st = .int y :: .int x :: r) (hy : ¬ y = 0)
    (kk : am_RQ Tt cl l D tc b own cc nL ret ini R QQ cells slots nxt L (.int (x / y) :: r) w) : am_RQ Tt cl l D tc b own cc nL ret ini R QQ cells slots pc L st w := by
  intro p e s m args below meth c H locs ls C hH hS hL
  obtain ⟨hd, hnx, -⟩ := am_ok_at hM hf
  obtain ⟨hexec, hb, -⟩ := id C
  simp only [am_len] at hd hnx
  subst hnx
  subst hst
  exact lv_idiv hexec hb hd hy (kk p e s m args below meth c H locs ls C hH hS hL)
theorem am_rem (hM : am_ok Tt cl own host cc tab) {nxt a k d : Nat} {cst : Int32} (hf : am_find tab pc = some (pc, .irem, nxt, a, k, d, cst)) {x y : Int32} {r : List Value} (hst : st = .int y :: .int x :: r) (hy : ¬ y = 0)
    (kk : am_RQ Tt cl l D tc b own cc nL ret ini R QQ cells slots nxt L (.int (x - x / y * y) :: r) w) : am_RQ Tt cl l D tc b own cc nL ret ini R QQ cells slots pc L st w := by
  intro p e s m args below meth c H locs ls C hH hS hL
  obtain ⟨hd, hnx, -⟩ := am_ok_at hM hf
  obtain ⟨hexec, hb, -⟩ := id C
  simp only [am_len] at hd hnx
  subst hnx
  subst hst
  exact lv_irem hexec hb hd hy (kk p e s m args below meth c H locs ls C hH hS hL)
end AMN
