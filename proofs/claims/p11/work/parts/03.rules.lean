/-! ===== the other rows: branches, arrays, fields, ends, calls ===== -/
/-- a branch: its condition, its goal, the next row, the stack behind it -/
def am_br (tab : List am_T) (pc : Nat) (st : List Value) : Option (Prop × Nat × Nat × List Value) := match am_find tab pc with
  | some (_, i, nxt, tgt, _, _, _) => match i with
    | .ifCond .eq _ => am_i1 st fun x r => some (x = 0, tgt, nxt, r)
    | .ifCond .ne _ => am_i1 st fun x r => some (x = 0, nxt, tgt, r)
    | .ifCond .lt _ => am_i1 st fun x r => some (x < 0, tgt, nxt, r)
    | .ifCond .ge _ => am_i1 st fun x r => some (0 ≤ x, tgt, nxt, r)
    | .ifCond .gt _ => am_i1 st fun x r => some (0 < x, tgt, nxt, r)
    | .ifCond .le _ => am_i1 st fun x r => some (x ≤ 0, tgt, nxt, r)
    | .if_icmp .eq _ => am_i2 st fun x y r => some (x = y, tgt, nxt, r)
    | .if_icmp .ne _ => am_i2 st fun x y r => some (x = y, nxt, tgt, r)
    | .if_icmp .lt _ => am_i2 st fun x y r => some (x < y, tgt, nxt, r)
    | .if_icmp .ge _ => am_i2 st fun x y r => some (y ≤ x, tgt, nxt, r)
    | .if_icmp .gt _ => am_i2 st fun x y r => some (y < x, tgt, nxt, r)
    | .if_icmp .le _ => am_i2 st fun x y r => some (x ≤ y, tgt, nxt, r)
    | _ => none
  | none => none
/-- an array of ints, bytes or booleans -/
def am_ar {β : Type} (w : am_W) (o : Nat) (f : Nat → Nat → (Nat → Int32) → Option β) : Option β := match am_nth w o with
  | some (.inl (t, n, .inl g)) => f t n g
  | _ => none
theorem am_ar_inv {β : Type} {w : am_W} {o : Nat} {f : Nat → Nat → (Nat → Int32) → Option β} {z : β} (h : am_ar w o f = some z) : ∃ t n g, w[o]? = some (.inl (t, n, .inl g)) ∧ f t n g = some z := by
  unfold am_ar at h
  split at h
  next t n g hx => exact ⟨t, n, g, by rw [← am_nth_eq]; exact hx, h⟩
  · cases h
/-- a read out of an array: its length, the index, what is read, the next row, the stack -/
def am_ald (tab : List am_T) (pc : Nat) (st : List Value) (w : am_W) : Option (Nat × Int32 × Int32 × Nat × List Value) := match am_find tab pc with
  | some (_, i, nxt, tgt, _, _, _) => match i with
    | .iaload => am_ir st fun x o r => am_ar w o fun t n g => bif Nat.beq t 1 then some (n, x, g x.toNatClampNeg, nxt, r) else none
    | .baload => am_ir st fun x o r => am_ar w o fun t n g => bif Nat.beq t 0 then some (n, x, g x.toNatClampNeg, nxt, r) else bif Nat.beq t 2 then some (n, x, g x.toNatClampNeg, nxt, r) else none
    | _ => none
  | none => none
/-- a write into an array: its length, the index, the next row, the stack, the world behind -/
def am_iir {β : Type} (st : List Value) (f : Int32 → Int32 → Nat → List Value → Option β) : Option β := match st with
  | .int v :: .int x :: .ref o :: r => f v x o r
  | _ => none
theorem am_iir_inv {β : Type} {st : List Value} {f : Int32 → Int32 → Nat → List Value → Option β} {z : β} (h : am_iir st f = some z) : ∃ v x o r, st = .int v :: .int x :: .ref o :: r ∧ f v x o r = some z := by
  unfold am_iir at h
  split at h
  · exact ⟨_, _, _, _, rfl, h⟩
  · cases h
def am_ast (tab : List am_T) (pc : Nat) (st : List Value) (w : am_W) : Option (Nat × Int32 × Nat × List Value × am_W) := match am_find tab pc with
  | some (_, i, nxt, tgt, _, _, _) => match i with
    | .iastore => am_iir st fun v x o r => am_ar w o fun t n g => bif Nat.beq t 1 then am_put w o (.inl (1, n, .inl (upd g x.toNatClampNeg v))) fun w' => some (n, x, nxt, r, w') else none
    | .bastore => am_iir st fun v x o r => am_ar w o fun t n g => bif Nat.beq t 0 then am_put w o (.inl (0, n, .inl (upd g x.toNatClampNeg (vp_nar .byte v)))) fun w' => some (n, x, nxt, r, w') else
        bif Nat.beq t 2 then am_put w o (.inl (2, n, .inl (upd g x.toNatClampNeg (vp_nar .boolean v)))) fun w' => some (n, x, nxt, r, w') else none
    | _ => none
  | none => none
theorem am_bif {β : Type} {c : Bool} {x y : Option β} {z : β} (h : (bif c then x else y) = some z) : (c = true ∧ x = some z) ∨ (c = false ∧ y = some z) := by
  cases c
  · exact Or.inr ⟨rfl, h⟩
  · exact Or.inl ⟨rfl, h⟩
section AMR
variable {Tt : List Cond} {cl : List vw_C} {l : Launch} {D : va_G} {tc : Nat → ClassId} {b : Nat} {own host : String} {cc : ByteArray} {nL : Nat} {ret : Option FieldType} {ini : am_I} {R : Room} {mc ms : Nat} {post : Option Value → am_W → Prop} {QQ : List Frame → Array Value → State → State → Prop} {cells slots pc : Nat} {L : am_O} {st : List Value} {w : am_W} {tab : List am_T}
theorem am_b (hM : am_ok Tt cl own host cc tab) {P : Prop} {tgt nxt : Nat} {r : List Value} (h : am_br tab pc st = some (P, tgt, nxt, r))
    (kt : P → am_RQ Tt cl l D tc b own cc nL ret ini R QQ cells slots tgt L r w) (kf : ¬ P → am_RQ Tt cl l D tc b own cc nL ret ini R QQ cells slots nxt L r w) : am_RQ Tt cl l D tc b own cc nL ret ini R QQ cells slots pc L st w := by
  intro p e s m args below meth c H locs ls C hH hS hL
  have kt' := fun q => kt q p e s m args below meth c H locs ls C hH hS hL
  have kf' := fun q => kf q p e s m args below meth c H locs ls C hH hS hL
  unfold am_br at h
  split at h
  next pc0 i nx a k d cst hf =>
    have hpc : pc0 = pc := (am_find_inv hf).2
    subst hpc
    obtain ⟨hd, hn, hx⟩ := am_ok_at hM hf
    obtain ⟨hexec, hb, -⟩ := id C
    split at h
    all_goals (try (cases h; done))
    all_goals simp only [am_xb, am_len] at hx hn hd
    all_goals have hx := of_decide_eq_true hx
    all_goals first | obtain ⟨x, r, rfl, h⟩ := am_i1_inv h | obtain ⟨x, y, r, rfl, h⟩ := am_i2_inv h
    all_goals cases h
    all_goals subst hn
    · exact lv_if_eq hexec hb hd hx kt' kf'
    · exact lv_if_ne hexec hb hd hx kf' kt'
    · exact lv_if_lt hexec hb hd hx kt' kf'
    · exact lv_if_ge hexec hb hd hx kt' kf'
    · exact lv_if_gt hexec hb hd hx kt' kf'
    · exact lv_if_le hexec hb hd hx kt' kf'
    · exact lv_icmp_eq hexec hb hd hx kt' kf'
    · exact lv_icmp_ne hexec hb hd hx kf' kt'
    · exact lv_icmp_lt hexec hb hd hx kt' kf'
    · exact lv_icmp_ge hexec hb hd hx kt' kf'
    · exact lv_icmp_gt hexec hb hd hx kt' kf'
    · exact lv_icmp_le hexec hb hd hx kt' kf'
  · cases h
theorem am_al (hM : am_ok Tt cl own host cc tab) {n nxt : Nat} {x v : Int32} {r : List Value} (h : am_ald tab pc st w = some (n, x, v, nxt, r)) (hin : vp_in x n)
    (kk : am_RQ Tt cl l D tc b own cc nL ret ini R QQ cells slots nxt L (.int v :: r) w) : am_RQ Tt cl l D tc b own cc nL ret ini R QQ cells slots pc L st w := by
  intro p e s m args below meth c H locs ls C hH hS hL
  have kk' := kk p e s m args below meth c H locs ls C hH hS hL
  unfold am_ald at h
  split at h
  next pc0 i nx a k d cst hf =>
    have hpc : pc0 = pc := (am_find_inv hf).2
    subst hpc
    obtain ⟨hd, hn, hx⟩ := am_ok_at hM hf
    obtain ⟨hexec, hb, -, -, -, -, -, -, hK, -⟩ := id C
    split at h
    all_goals (try (cases h; done))
    all_goals simp only [am_len] at hn hd
    all_goals obtain ⟨x, o, r, rfl, h⟩ := am_ir_inv h
    all_goals obtain ⟨t, n, g, ho, h⟩ := am_ar_inv h
    all_goals have he := am_w_some (tc := tc) (b := b) ho
    · rcases am_bif h with ⟨ht, h⟩ | ⟨-, h⟩
      · have ht := Nat.eq_of_beq_eq_true ht
        subst ht
        cases h
        subst hn
        exact va_iald hexec hb hK.1 hH.2 o 1 he rfl hin hd kk'
      · cases h
    · rcases am_bif h with ⟨ht, h⟩ | ⟨-, h⟩
      · have ht := Nat.eq_of_beq_eq_true ht
        subst ht
        cases h
        subst hn
        exact va_bald hexec hb hK.1 hH.2 o 0 he rfl hin hd kk'
      · rcases am_bif h with ⟨ht, h⟩ | ⟨-, h⟩
        · have ht := Nat.eq_of_beq_eq_true ht
          subst ht
          cases h
          subst hn
          exact va_zald hexec hb hK.1 hH.2 o 2 he rfl hin hd kk'
        · cases h
  · cases h
theorem am_as (hM : am_ok Tt cl own host cc tab) {n nxt : Nat} {x : Int32} {r : List Value} {w' : am_W} (h : am_ast tab pc st w = some (n, x, nxt, r, w')) (hin : vp_in x n)
    (kk : am_RQ Tt cl l D tc b own cc nL ret ini R QQ cells slots nxt L r w') : am_RQ Tt cl l D tc b own cc nL ret ini R QQ cells slots pc L st w := by
  intro p e s m args below meth c H locs ls C hH hS hL
  unfold am_ast at h
  split at h
  next pc0 i nx a k d cst hf =>
    have hpc : pc0 = pc := (am_find_inv hf).2
    subst hpc
    obtain ⟨hd, hn, hx⟩ := am_ok_at hM hf
    obtain ⟨hexec, hb, -, -, -, -, -, -, hK, -⟩ := id C
    split at h
    all_goals (try (cases h; done))
    all_goals simp only [am_len] at hn hd
    all_goals obtain ⟨v, x, o, r, rfl, h⟩ := am_iir_inv h
    all_goals obtain ⟨t, n, g, ho, h⟩ := am_ar_inv h
    all_goals have he := am_w_some (tc := tc) (b := b) ho
    · rcases am_bif h with ⟨ht, h⟩ | ⟨-, h⟩
      · have ht := Nat.eq_of_beq_eq_true ht
        subst ht
        obtain ⟨-, h⟩ := am_put_inv h
        cases h
        subst hn
        refine W.iast hexec hb (hH.2 o _ he) ((hK.1.2 1 _ rfl).1 n (fun j => .int (g j))) (fun q => by cases q) (by show ¬ (x < 0 ∨ (arrV _ _ _).slots.size ≤ _); rw [arrV_size]; exact hin) rfl rfl hd fun H1 e1 z oq => ?_
        refine kk p e s m args below meth c H1 _ ls C (hH.set ho ?_ z oq) (hS.put z oq (Nat.le_add_right b o)) hL
        show H1[b + o]? = some (vp_cell _ _)
        rw [e1, vp_cell_i, vp_cell_i, arrV_store]
        congr 2
        funext q
        by_cases hq : q = x.toNatClampNeg <;> simp [updV, upd, hq]
      · cases h
    · rcases am_bif h with ⟨ht, h⟩ | ⟨-, h⟩
      · have ht := Nat.eq_of_beq_eq_true ht
        subst ht
        obtain ⟨-, h⟩ := am_put_inv h
        cases h
        subst hn
        refine W.bast hexec hb (hH.2 o _ he) ((hK.1.2 0 _ rfl).1 n (fun j => .int (g j))) (fun q => by cases q) (by show ¬ (x < 0 ∨ (arrV _ _ _).slots.size ≤ _); rw [arrV_size]; exact hin) rfl rfl hd fun H1 e1 z oq => ?_
        refine kk p e s m args below meth c H1 _ ls C (hH.set ho ?_ z oq) (hS.put z oq (Nat.le_add_right b o)) hL
        show H1[b + o]? = some (vp_cell _ _)
        rw [e1, vp_cell_i, vp_cell_i, arrV_store]
        congr 2
        funext q
        by_cases hq : q = x.toNatClampNeg
        · subst hq
          simp [updV, upd, vp_nar]
          try rfl
        · simp [updV, upd, hq]
      · rcases am_bif h with ⟨ht, h⟩ | ⟨-, h⟩
        · have ht := Nat.eq_of_beq_eq_true ht
          subst ht
          obtain ⟨-, h⟩ := am_put_inv h
          cases h
          subst hn
          refine W.zast hexec hb (hH.2 o _ he) ((hK.1.2 2 _ rfl).1 n (fun j => .int (g j))) (fun q => by cases q) (by show ¬ (x < 0 ∨ (arrV _ _ _).slots.size ≤ _); rw [arrV_size]; exact hin) rfl rfl hd fun H1 e1 z oq => ?_
          refine kk p e s m args below meth c H1 _ ls C (hH.set ho ?_ z oq) (hS.put z oq (Nat.le_add_right b o)) hL
          show H1[b + o]? = some (vp_cell _ _)
          rw [e1, vp_cell_i, vp_cell_i, arrV_store]
          congr 2
          funext q
          by_cases hq : q = x.toNatClampNeg
          · subst hq
            simp [updV, upd, vp_nar]
            try rfl
          · simp [updV, upd, hq]
        · cases h
  · cases h
end AMR
